section KEVAL
theorem obid {α β : Type} (f : Option (α × β)) : (f.bind fun q => some (q.1, q.2)) = f := by
  cases f <;> rfl
theorem k_isConst {σ : CS} {c m : Nat} (hc : c < 1000) (hm : m ≤ 4) (h5 : σ.1 34 5 = i32 m) : f_Signs_isConstant (i32 c) σ = some (if 97 ≤ c ∧ c - 97 < m then i32 1 else i32 0, σ) := by
  unfold f_Signs_isConstant B_Signs_isConstant_21 B_Signs_isConstant_22
  by_cases h : 97 ≤ c
  · rw [if_neg (show ¬ (i32 c < 97) from by rw [show (97 : Int32) = i32 97 from rfl, z_lt (by omega) (by omega)]; omega), h5, show i32 c - 97 = i32 (c - 97) from by rw [z97, z_sub h]]
    by_cases h2 : c - 97 < m
    · rw [if_neg (show ¬ (i32 m ≤ i32 (c - 97)) from by rw [z_le (by omega) (by omega)]; omega), if_pos (show 97 ≤ c ∧ c - 97 < m from ⟨h, h2⟩)]
      rfl
    · rw [if_pos (show i32 m ≤ i32 (c - 97) from by rw [z_le (by omega) (by omega)]; omega), if_neg (show ¬ (97 ≤ c ∧ c - 97 < m) by omega)]
      rfl
  · rw [if_pos (show i32 c < 97 from by rw [show (97 : Int32) = i32 97 from rfl, z_lt (by omega) (by omega)]; omega), if_neg (show ¬ (97 ≤ c ∧ c - 97 < m) by omega)]
    rfl
section STEPS
variable {re ra : Int32 → Int32 → Int32 → CS → Option (Int32 × CS)} {σ : CS} {p c T n : Nat} {x2 : Int32}
theorem ev_go (hT : σ.1 34 1 = i32 T) (hp : p < T) (h : T ≤ 3600) (hg : σ.1 35 p = i32 c) (hn : n < 1000) : F_Values_evaluate re ra (i32 p) x2 (i32 (n + 1)) σ = (if i32 c = 42 then (f_Values_make 6 0 0 (sI σ 38 6 (i32 (p + 1)))) else if i32 c = 44 then (re (i32 (p + 1)) x2 (i32 n) (sI σ 38 6 (i32 (p + 1)))).bind fun q3 => (re (q3.2.1 38 6) x2 (i32 n) q3.2).bind fun q4 => (if i32 c = 44 then (f_Values_make 7 q3.1 q4.1 q4.2).bind fun q6 => some (q6.1, sI q6.2 38 6 (q4.2.1 38 6)) else (ra q3.1 q4.1 (i32 n) q4.2).bind fun q5 => some (q5.1, sI q5.2 38 6 (q4.2.1 38 6))) else if i32 c = 46 then (re (i32 (p + 1)) x2 (i32 n) (sI σ 38 6 (i32 (p + 1)))).bind fun q7 => (re (q7.2.1 38 6) x2 (i32 n) q7.2).bind fun q8 => (if i32 c = 44 then (f_Values_make 7 q7.1 q8.1 q8.2).bind fun q10 => some (q10.1, sI q10.2 38 6 (q8.2.1 38 6)) else (ra q7.1 q8.1 (i32 n) q8.2).bind fun q9 => some (q9.1, sI q9.2 38 6 (q8.2.1 38 6))) else if i32 c = 60 then (re (i32 (p + 1)) x2 (i32 n) (sI σ 38 6 (i32 (p + 1)))).bind fun q11 => f_Values_firstOf q11.1 q11.2 else if i32 c = 62 then (re (i32 (p + 1)) x2 (i32 n) (sI σ 38 6 (i32 (p + 1)))).bind fun q13 => f_Values_secondOf q13.1 q13.2 else if i32 c = 92 then (f_Signs_behind (i32 p) (sI σ 38 6 (i32 (p + 1)))).bind fun q15 => f_Values_make 8 (i32 (p + 1)) x2 (sI q15.2 38 6 q15.1) else (f_Signs_isConstant (i32 c) (sI σ 38 6 (i32 (p + 1)))).bind fun q17 => (if q17.1 = 0 then f_Values_variableIn x2 (i32 c - 48) q17.2 else f_Values_constantOf (i32 c) q17.2)) := by
  unfold F_Values_evaluate B_Values_evaluate_212 B_Values_evaluate_254
  rw [k_at hT hp h, Option.bind_some]
  dsimp only
  rw [hg, if_pos (show 0 < i32 (n + 1) from by rw [show (0 : Int32) = i32 0 from rfl, z_lt (by omega) (by omega)]; omega), show i32 p + 1 = i32 (p + 1) from by rw [z1, z_add], z_sub1]
  simp only [obid]
theorem ev_star (hT : σ.1 34 1 = i32 T) (hp : p < T) (h : T ≤ 3600) (hg : σ.1 35 p = i32 42) (hn : n < 1000) : F_Values_evaluate re ra (i32 p) x2 (i32 (n + 1)) σ = f_Values_make 6 0 0 (sI σ 38 6 (i32 (p + 1))) := by
  rw [ev_go hT hp h hg hn, if_pos (show i32 42 = 42 from rfl)]
theorem ev_pair (hT : σ.1 34 1 = i32 T) (hp : p < T) (h : T ≤ 3600) (hg : σ.1 35 p = i32 44) (hn : n < 1000) : F_Values_evaluate re ra (i32 p) x2 (i32 (n + 1)) σ = (re (i32 (p + 1)) x2 (i32 n) (sI σ 38 6 (i32 (p + 1)))).bind fun q3 => (re (q3.2.1 38 6) x2 (i32 n) q3.2).bind fun q4 => (f_Values_make 7 q3.1 q4.1 q4.2).bind fun q6 => some (q6.1, sI q6.2 38 6 (q4.2.1 38 6)) := by
  rw [ev_go hT hp h hg hn, if_neg (show ¬ (i32 44 = 42) from by decide), if_pos (show i32 44 = 44 from rfl)]
  simp only [if_pos (show i32 44 = 44 from rfl)]
theorem ev_app (hT : σ.1 34 1 = i32 T) (hp : p < T) (h : T ≤ 3600) (hg : σ.1 35 p = i32 46) (hn : n < 1000) : F_Values_evaluate re ra (i32 p) x2 (i32 (n + 1)) σ = (re (i32 (p + 1)) x2 (i32 n) (sI σ 38 6 (i32 (p + 1)))).bind fun q3 => (re (q3.2.1 38 6) x2 (i32 n) q3.2).bind fun q4 => (ra q3.1 q4.1 (i32 n) q4.2).bind fun q6 => some (q6.1, sI q6.2 38 6 (q4.2.1 38 6)) := by
  rw [ev_go hT hp h hg hn, if_neg (show ¬ (i32 46 = 42) from by decide), if_neg (show ¬ (i32 46 = 44) from by decide), if_pos (show i32 46 = 46 from rfl)]
  simp only [if_neg (show ¬ (i32 46 = 44) from by decide)]
theorem ev_fst (hT : σ.1 34 1 = i32 T) (hp : p < T) (h : T ≤ 3600) (hg : σ.1 35 p = i32 60) (hn : n < 1000) : F_Values_evaluate re ra (i32 p) x2 (i32 (n + 1)) σ = (re (i32 (p + 1)) x2 (i32 n) (sI σ 38 6 (i32 (p + 1)))).bind fun q3 => f_Values_firstOf q3.1 q3.2 := by
  rw [ev_go hT hp h hg hn, if_neg (show ¬ (i32 60 = 42) from by decide), if_neg (show ¬ (i32 60 = 44) from by decide), if_neg (show ¬ (i32 60 = 46) from by decide), if_pos (show i32 60 = 60 from rfl)]
theorem ev_snd (hT : σ.1 34 1 = i32 T) (hp : p < T) (h : T ≤ 3600) (hg : σ.1 35 p = i32 62) (hn : n < 1000) : F_Values_evaluate re ra (i32 p) x2 (i32 (n + 1)) σ = (re (i32 (p + 1)) x2 (i32 n) (sI σ 38 6 (i32 (p + 1)))).bind fun q3 => f_Values_secondOf q3.1 q3.2 := by
  rw [ev_go hT hp h hg hn, if_neg (show ¬ (i32 62 = 42) from by decide), if_neg (show ¬ (i32 62 = 44) from by decide), if_neg (show ¬ (i32 62 = 46) from by decide), if_neg (show ¬ (i32 62 = 60) from by decide), if_pos (show i32 62 = 62 from rfl)]
theorem ev_lam (hT : σ.1 34 1 = i32 T) (hp : p < T) (h : T ≤ 3600) (hg : σ.1 35 p = i32 92) (hn : n < 1000) : F_Values_evaluate re ra (i32 p) x2 (i32 (n + 1)) σ = (f_Signs_behind (i32 p) (sI σ 38 6 (i32 (p + 1)))).bind fun q15 => f_Values_make 8 (i32 (p + 1)) x2 (sI q15.2 38 6 q15.1) := by
  rw [ev_go hT hp h hg hn, if_neg (show ¬ (i32 92 = 42) from by decide), if_neg (show ¬ (i32 92 = 44) from by decide), if_neg (show ¬ (i32 92 = 46) from by decide), if_neg (show ¬ (i32 92 = 60) from by decide), if_neg (show ¬ (i32 92 = 62) from by decide), if_pos (show i32 92 = 92 from rfl)]
theorem ev_leaf (hT : σ.1 34 1 = i32 T) (hp : p < T) (h : T ≤ 3600) (hg : σ.1 35 p = i32 c) (hn : n < 1000) (hc : (48 ≤ c ∧ c < 58) ∨ (97 ≤ c ∧ c < 200)) : F_Values_evaluate re ra (i32 p) x2 (i32 (n + 1)) σ = (f_Signs_isConstant (i32 c) (sI σ 38 6 (i32 (p + 1)))).bind fun q17 => (if q17.1 = 0 then f_Values_variableIn x2 (i32 c - 48) q17.2 else f_Values_constantOf (i32 c) q17.2) := by
  rw [ev_go hT hp h hg hn, if_neg (show ¬ (i32 c = 42) from c_eq (b := 42) (by omega) (by omega) (by omega)), if_neg (show ¬ (i32 c = 44) from c_eq (b := 44) (by omega) (by omega) (by omega)), if_neg (show ¬ (i32 c = 46) from c_eq (b := 46) (by omega) (by omega) (by omega)), if_neg (show ¬ (i32 c = 60) from c_eq (b := 60) (by omega) (by omega) (by omega)), if_neg (show ¬ (i32 c = 62) from c_eq (b := 62) (by omega) (by omega) (by omega)), if_neg (show ¬ (i32 c = 92) from c_eq (b := 92) (by omega) (by omega) (by omega))]
end STEPS
/-- the place behind told aside -/
theorem bh_kp (σ : CS) (x : Int32) (V T : Nat) : kpK σ (sI σ 38 6 x) V T := ⟨fun i _ => ⟨sI_ne _ _ (Or.inl (by decide)), sI_ne _ _ (Or.inl (by decide)), sI_ne _ _ (Or.inl (by decide))⟩, fun i _ => sI_ne _ _ (Or.inl (by decide))⟩
theorem bh_ch (σ : CS) (x : Int32) : chK AV σ (sI σ 38 6 x) := cK_sI σ x (by decide) (by decide) (by decide)
theorem bh_V (σ : CS) (x : Int32) : (sI σ 38 6 x).1 38 4 = σ.1 38 4 := sI_ne _ _ (Or.inr (by decide))
/-- what evaluating needs of a state, and what it leaves -/
def EvP (σ : CS) (V T m : Nat) : Prop := σ.1 34 1 = i32 T ∧ T ≤ 3600 ∧ σ.1 34 5 = i32 m ∧ σ.1 38 4 = i32 V ∧ 1 ≤ V
theorem EvP_ch {σ τ : CS} {V T m V' : Nat} (h : EvP σ V T m) (hc : chK AV σ τ) (hV : τ.1 38 4 = i32 V') (h1 : V ≤ V') : EvP τ V' T m := ⟨by rw [hc.2.1 34 (by decide)]; exact h.1, h.2.1, by rw [hc.2.1 34 (by decide)]; exact h.2.2.1, hV, by have := h.2.2.2.2; omega⟩
def EvR (σ τ : CS) (V V' T : Nat) (t : Tr) (v : Nat) : Prop := τ.1 38 4 = i32 V' ∧ V ≤ V' ∧ rpK τ V' T false t v ∧ kpK σ τ V T ∧ chK AV σ τ
/-- a sign without parts -/
theorem k_leaf {L : Lw} (hL : L.2.length ≤ 4) {re ra : Int32 → Int32 → Int32 → CS → Option (Int32 × CS)} {c : Nat} {Γ : List Tr} {m : Bool} {s : Tr} (h : HT L (.leaf c) Γ m s) {n p V T e : Nat} {ρ : List Tr} {σ : CS} (hE : EvP σ V T L.2.length) (hg : σ.1 35 p = i32 c) (hp : p < T) (hn : n < 1000) (hρ : ρ.length = Γ.length) (hr : rpK σ V T true (eL ρ) e) (hv : V < 3072) : ∃ v τ V', F_Values_evaluate re ra (i32 p) (i32 e) (i32 (n + 1)) σ = some (i32 v, τ) ∧ EvR σ τ V V' T (evD (.leaf c) ρ) v ∧ V' ≤ V + 1 ∧ ((∀ u ∈ ρ, wv u = 0) → V' + wv (evD (.leaf c) ρ) ≤ V + 1) ∧ τ.1 38 6 = i32 (p + 1) := by
  obtain ⟨hT, hT2, h5, hV, hV1⟩ := hE
  have b1 := bh_kp σ (i32 (p + 1)) V T
  have b2 := bh_ch σ (i32 (p + 1))
  have b3 := bh_V σ (i32 (p + 1))
  have b4 : (sI σ 38 6 (i32 (p + 1))).1 38 6 = i32 (p + 1) := sI_at _ _ _ _
  have h5' : (sI σ 38 6 (i32 (p + 1))).1 34 5 = i32 L.2.length := by rw [b2.2.1 34 (by decide)]; exact h5
  simp only [HT] at h
  rcases h with ⟨_, rfl, _⟩ | ⟨_, h⟩
  · rw [ev_star hT hp hT2 hg hn]
    generalize sI σ 38 6 (i32 (p + 1)) = σ' at b1 b2 b3 b4 h5'
    have cA := mkn_ch (A := AV) σ' V 6 0 0 (fun _ h => h)
    refine ⟨V, mkn σ' V 6 0 0, V + 1, k_make _ _ _ (by rw [b3]; exact hV) hV1 hv, ⟨mkn_V _ _ _ _ _, by omega, ⟨by omega, by omega, Or.inr (Or.inr ⟨rfl, mkn_39 _ _ _ _ _⟩)⟩, kK_tr b1 (mkn_kp _ _ _ _ _ _) (Nat.le_refl _) (Nat.le_refl _), cK_tr b2 cA⟩, Nat.le_refl _, fun _ => Nat.le_refl _, by rw [mkn_386]; exact b4⟩
  · unfold hdS at h
    split at h
    · rename_i hc
      have hlt := (List.getElem?_eq_some_iff.mp h).1
      have hl := rK_len ρ e hr
      rw [ev_leaf hT hp hT2 hg hn (Or.inl hc)]
      generalize sI σ 38 6 (i32 (p + 1)) = σ' at b1 b2 b3 b4 h5'
      have hr' := rK_kp b1 (cK_fx b2 n36V) (Nat.le_refl _) (Nat.le_refl _) _ _ _ hr
      obtain ⟨q, e1, e2⟩ := k_varIn (n := c - 48) (by rw [b3]; exact hV) (by omega) hr' (by omega)
      have ev : evD (.leaf c) ρ = lk ρ (c - 48) := by simp only [evD, if_pos hc]
      refine ⟨q, σ', V, ?_, ⟨by rw [b3]; exact hV, Nat.le_refl _, by rw [ev]; exact e2, b1, b2⟩, by omega, fun hw => ?_, b4⟩
      · rw [k_isConst (by omega) hL h5', Option.bind_some, if_neg (show ¬ (97 ≤ c ∧ c - 97 < L.2.length) by omega)]
        dsimp only
        rw [if_pos (show i32 0 = 0 from rfl), z_sub48 hc.1]
        exact e1
      · rw [ev]
        have hm : lk ρ (c - 48) ∈ ρ := by
          have hlt2 : c - 48 < ρ.length := by omega
          simp [lk, List.getElem?_eq_getElem hlt2]
        rw [hw _ hm]; omega
    · split at h
      · rename_i hc1 hc2
        have hlt : c - 97 < L.2.length := by
          cases hh : L.2[c - 97]? with
          | none => rw [hh] at h; simp at h
          | some x => exact (List.getElem?_eq_some_iff.mp hh).1
        rw [ev_leaf hT hp hT2 hg hn (Or.inr ⟨hc2, by omega⟩)]
        generalize sI σ 38 6 (i32 (p + 1)) = σ' at b1 b2 b3 b4 h5'
        have cA := mkn_ch (A := AV) σ' V 2 (i32 c) 0 (fun _ h => h)
        have ev : evD (.leaf c) ρ = .leaf c := by simp only [evD, if_neg hc1]
        refine ⟨V, mkn σ' V 2 (i32 c) 0, V + 1, ?_, ⟨mkn_V _ _ _ _ _, by omega, ?_, kK_tr b1 (mkn_kp _ _ _ _ _ _) (Nat.le_refl _) (Nat.le_refl _), cK_tr b2 cA⟩, Nat.le_refl _, fun _ => by rw [ev]; exact Nat.le_refl _, by rw [mkn_386]; exact b4⟩
        · rw [k_isConst (by omega) hL h5', Option.bind_some, if_pos (show 97 ≤ c ∧ c - 97 < L.2.length from ⟨hc2, hlt⟩)]
          dsimp only
          rw [if_neg (show ¬ (i32 1 = 0) from by decide)]
          unfold f_Values_constantOf
          rw [obid, k_make _ _ _ (by rw [b3]; exact hV) hV1 hv]
        · rw [ev]
          exact ⟨by omega, by omega, Or.inr (Or.inl ⟨hc2, by omega, mkn_39 _ _ _ _ _, mkn_40 _ _ _ _ _⟩)⟩
      · simp at h
end KEVAL

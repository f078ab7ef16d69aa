section KPUT
/-- where the laws' types stand -/
def lwP (L : Lw) (σ : CS) (T : Nat) : Prop := σ.1 34 3 = i32 L.1.length ∧ σ.1 34 5 = i32 L.2.length ∧ (∀ (k : Nat) (I : Tr), L.1[k]? = some (some I) → ∃ q, σ.1 36 k = i32 q ∧ fm (σ.1 35) I q ∧ q + ln I ≤ T ∧ pr (fxK σ) I) ∧ (∀ k : Nat, L.1[k]? = some none → σ.1 36 k = -1) ∧ (∀ (k : Nat) (A : Tr), L.2[k]? = some A → ∃ q, σ.1 37 k = i32 q ∧ fm (σ.1 35) A q ∧ q + ln A ≤ T ∧ pr (fxK σ) A)
theorem lwP_kp {L : Lw} {σ τ : CS} {V T T' : Nat} {A : List Nat} (h : lwP L σ T) (hk : kpK σ τ V T) (hc : chK A σ τ) (h36 : 36 ∉ A) (h37 : 37 ∉ A) (hT : T ≤ T') : lwP L τ T' := by
  obtain ⟨a1, a2, a3, a4, a5⟩ := h
  have e36 := hc.2.1 36 h36
  have e37 := hc.2.1 37 h37
  have hf := cK_fx hc h36
  refine ⟨by rw [hc.2.2.1 3 (by decide)]; exact a1, by rw [hc.2.2.1 5 (by decide)]; exact a2, fun k I hI => ?_, fun k hk' => by rw [e36]; exact a4 k hk', fun k A hA => ?_⟩
  · obtain ⟨q, b1, b2, b3, b4⟩ := a3 k I hI
    exact ⟨q, by rw [e36]; exact b1, kK_fm hk b2 b3, by omega, by rw [hf]; exact b4⟩
  · obtain ⟨q, b1, b2, b3, b4⟩ := a5 k A hA
    exact ⟨q, by rw [e37]; exact b1, kK_fm hk b2 b3, by omega, by rw [hf]; exact b4⟩
/-- what writing needs -/
def WP (L : Lw) (N : List Tr) (σ : CS) (V T B : Nat) : Prop := lwP L σ T ∧ σ.1 34 1 = i32 T ∧ B ≤ T ∧ T ≤ B + 50 ∧ B + 50 ≤ 3600 ∧ σ.1 38 4 = i32 V ∧ 1 ≤ V ∧ V ≤ 3072 ∧ σ.1 44 2 = i32 B ∧ σ.1 44 3 = i32 0 ∧ N.length ≤ 10 ∧ ∀ (k : Nat) (x : Tr), N[k]? = some x → ∃ q, σ.1 42 k = i32 q ∧ tyS σ V T x q
/-- what writing leaves as it was -/
def WF (σ τ : CS) (V T n : Nat) : Prop := kpK σ τ V T ∧ chK AW σ τ ∧ τ.1 44 2 = σ.1 44 2 ∧ ∀ k, k < n → τ.1 42 k = σ.1 42 k
theorem WF_rf (σ : CS) (V T n : Nat) : WF σ σ V T n := ⟨kK_rf _ _ _, cK_rf _ _, rfl, fun _ _ => rfl⟩
theorem WF_tr {σ τ υ : CS} {V T n V' T' n' : Nat} (h : WF σ τ V T n) (g : WF τ υ V' T' n') (hV : V ≤ V') (hT : T ≤ T') (hn : n ≤ n') : WF σ υ V T n := ⟨kK_tr h.1 g.1 hV hT, cK_tr h.2.1 g.2.1, g.2.2.1.trans h.2.2.1, fun k hk => (g.2.2.2 k (by omega)).trans (h.2.2.2 k hk)⟩
theorem WF_AV {σ τ : CS} {V T n : Nat} (hk : kpK σ τ V T) (hc : chK AV σ τ) : WF σ τ V T n := ⟨hk, cVW hc, by rw [hc.2.1 44 (by decide)], fun k _ => by rw [hc.2.1 42 (by decide)]⟩
theorem n37W : 37 ∉ AW := by decide
theorem n37V : 37 ∉ AV := by decide
theorem WF_fx {σ τ : CS} {V T n : Nat} (h : WF σ τ V T n) : fxK τ = fxK σ := cK_fx h.2.1 n36W
theorem WP_go {L : Lw} {N : List Tr} {σ τ : CS} {V T B V' T' n : Nat} (h : WP L N σ V T B) (hf : WF σ τ V T n) (hn : N.length ≤ n) (h1 : τ.1 34 1 = i32 T') (hT : T ≤ T') (hT2 : T' ≤ B + 50) (hV : τ.1 38 4 = i32 V') (hV2 : V ≤ V') (hV3 : V' ≤ 3072) (h0 : τ.1 44 3 = i32 0) : WP L N τ V' T' B := by
  obtain ⟨a1, a2, a3, a4, a5, a6, a7, a8, a9, a10, a11, a12⟩ := h
  refine ⟨lwP_kp a1 hf.1 hf.2.1 n36W n37W hT, h1, by omega, hT2, a5, hV, by omega, hV3, by rw [hf.2.2.1]; exact a9, h0, a11, fun k x hk => ?_⟩
  have hlt := (List.getElem?_eq_some_iff.mp hk).1
  obtain ⟨q, b1, b2⟩ := a12 k x hk
  exact ⟨q, by rw [hf.2.2.2 k (by omega)]; exact b1, tyS_kp hf.1 (WF_fx hf) hV2 hT b2⟩
theorem WP_EvP {L : Lw} {N : List Tr} {σ : CS} {V T B : Nat} (h : WP L N σ V T B) : EvP σ V T L.2.length := ⟨h.2.1, by have := h.2.2.2.1; have := h.2.2.2.2.1; omega, h.1.2.1, h.2.2.2.2.2.1, h.2.2.2.2.2.2.1⟩
/-- written: all of it -/
def WOk (σ τ : CS) (V T c n : Nat) (t : Tr) (V' : Nat) : Prop := τ.1 38 4 = i32 V' ∧ V ≤ V' ∧ V' ≤ V + c ∧ τ.1 34 1 = i32 (T + ln t) ∧ fm (τ.1 35) t T ∧ τ.1 44 3 = i32 0 ∧ WF σ τ V T n
/-- written: too large -/
def WBig (σ τ : CS) (V T B c n : Nat) : Prop := ∃ V' T', τ.1 38 4 = i32 V' ∧ V ≤ V' ∧ V' ≤ V + c ∧ τ.1 34 1 = i32 T' ∧ T ≤ T' ∧ T' ≤ B + 50 ∧ τ.1 44 3 = i32 1 ∧ WF σ τ V T n
theorem WBig_tr {σ τ υ : CS} {V T B c n V1 T1 c1 n1 : Nat} (hf : WF σ τ V T n) (hV : V ≤ V1) (hT : T ≤ T1) (hn : n ≤ n1) (hc : V1 + c1 ≤ V + c) (h : WBig τ υ V1 T1 B c1 n1) : WBig σ υ V T B c n := by
  obtain ⟨V', T', a1, a2, a3, a4, a5, a6, a7, a8⟩ := h
  exact ⟨V', T', a1, by omega, by omega, a4, by omega, a6, a7, WF_tr hf a8 hV hT hn⟩
theorem WBig_J {σ τ υ : CS} {V T B c n d : Nat} (h : WBig σ τ V T B c n) (hj : ∀ V', τ.1 38 4 = i32 V' → JK τ υ V' d) : WBig σ υ V T B (c + d) n := by
  obtain ⟨V', T', a1, a2, a3, a4, a5, a6, a7, a8⟩ := h
  obtain ⟨V2, b1, b2, b3, b4, b5, b6⟩ := hj V' a1
  exact ⟨V2, T', b1, by omega, by omega, by rw [b6.2.1 34 (by decide)]; exact a4, a5, a6, by rw [b6.2.1 44 (by decide)]; exact a7, WF_tr a8 (WF_AV (n := n) (b5 T) b6) a2 (Nat.le_refl _) (Nat.le_refl _)⟩
theorem WBig_c {σ τ : CS} {V T B c d n : Nat} (h : WBig σ τ V T B c n) (hc : c ≤ d) : WBig σ τ V T B d n := by
  obtain ⟨V', T', a1, a2, a3, a4⟩ := h
  exact ⟨V', T', a1, a2, by omega, a4⟩
/-- a sign put -/
def pw (σ : CS) (T c : Nat) : CS := sI (sI σ 35 T (i32 c)) 34 1 (i32 (T + 1))
theorem pw_341 (σ : CS) (T c : Nat) : (pw σ T c).1 34 1 = i32 (T + 1) := sI_at _ _ _ _
theorem pw_35 (σ : CS) (T c : Nat) : (pw σ T c).1 35 T = i32 c := by
  unfold pw
  rw [sI_ne _ _ (Or.inl (by decide)), sI_at]
theorem pw_ch (σ : CS) (T c : Nat) : chK AW σ (pw σ T c) := cK_tr (cK_sI σ (i32 c) (by decide) (by omega) (by omega)) (cK_sI _ _ (by decide) (fun _ => rfl) (by omega))
theorem pw_row (σ : CS) (T c : Nat) {j : Nat} (h1 : j ≠ 34) (h2 : j ≠ 35) : (pw σ T c).1 j = σ.1 j := by
  unfold pw
  rw [sI_row _ _ h1, sI_row _ _ h2]
theorem pw_kp (σ : CS) (T c V : Nat) : kpK σ (pw σ T c) V T := by
  refine ⟨fun i _ => ⟨by rw [pw_row _ _ _ (by decide) (by decide)], by rw [pw_row _ _ _ (by decide) (by decide)], by rw [pw_row _ _ _ (by decide) (by decide)]⟩, fun i hi => ?_⟩
  unfold pw
  rw [sI_ne _ _ (Or.inl (by decide)), sI_ne _ _ (Or.inr (by omega))]
theorem pw_WF (σ : CS) (T c V n : Nat) : WF σ (pw σ T c) V T n := ⟨pw_kp _ _ _ _, pw_ch _ _ _, by rw [pw_row _ _ _ (by decide) (by decide)], fun k _ => by rw [pw_row _ _ _ (by decide) (by decide)]⟩
section PUT
variable {L : Lw} {N : List Tr} {σ : CS} {V T B c : Nat}
theorem k_put1 (h : WP L N σ V T B) (hc : c < 2147483648) (h0 : c ≠ 0) (ht : T < B + 50) : f_Writer_put (i32 c) σ = some (0, pw σ T c) := by
  obtain ⟨a1, a2, a3, a4, a5, a6, a7, a8, a9, a10, a11, a12⟩ := h
  have e1 : (sI σ 35 T (i32 c)).1 34 1 = i32 T := by rw [sI_ne _ _ (Or.inl (by decide))]; exact a2
  unfold f_Writer_put B_Writer_put_26 f_Signs_add B_Writer_put_49
  rw [a2, a9, z_sub a3, if_neg (show ¬ ((50 : Int32) ≤ i32 (T - B)) from by rw [show (50 : Int32) = i32 50 from rfl, z_le (by omega) (by omega)]; omega), if_neg (show ¬ (i32 c = 0) from c_eq (b := 0) h0 hc (by omega)), if_pos (show σ.1 44 3 = 0 from a10), if_neg (show ¬ (i32 T < 0) from by rw [show (0 : Int32) = i32 0 from rfl, z_lt (by omega) (by omega)]; omega), if_pos (show i32 T < 3600 from by rw [show (3600 : Int32) = i32 3600 from rfl, z_lt (by omega) (by omega)]; omega), if_pos (show ix (i32 T) (lS 35) = true from c_ix (show T < lS 35 by show T < 3600; omega) (by omega)), z_nn (by omega), e1, Option.bind_some]
  dsimp only
  rw [if_neg (show ¬ ((1 : Int32) = 0) from by decide), show i32 T + 1 = i32 (T + 1) from by rw [z1, z_add]]
  rfl
theorem k_put0 (x : Int32) (h : WP L N σ V T B) (ht : T = B + 50) : f_Writer_put x σ = some (0, sI σ 44 3 1) := by
  obtain ⟨a1, a2, a3, a4, a5, a6, a7, a8, a9, a10, a11, a12⟩ := h
  unfold f_Writer_put B_Writer_put_21 B_Writer_put_26 B_Writer_put_49
  rw [a2, a9, z_sub a3, if_pos (show (50 : Int32) ≤ i32 (T - B) from by rw [show (50 : Int32) = i32 50 from rfl, z_le (by omega) (by omega)]; omega), if_neg (show ¬ ((sI σ 44 3 1).1 44 3 = 0) from by rw [sI_at]; decide)]
theorem WP_pw (h : WP L N σ V T B) (ht : T < B + 50) (c : Nat) : WP L N (pw σ T c) V (T + 1) B :=
  WP_go h (pw_WF σ T c V N.length) (Nat.le_refl _) (pw_341 _ _ _) (by omega) (by omega) (by rw [pw_row _ _ _ (by decide) (by decide)]; exact h.2.2.2.2.2.1) (Nat.le_refl _) h.2.2.2.2.2.2.2.1 (by rw [pw_row _ _ _ (by decide) (by decide)]; exact h.2.2.2.2.2.2.2.2.2.1)
theorem tl_WF (σ : CS) (V T n : Nat) : WF σ (sI σ 44 3 1) V T n := ⟨⟨fun i _ => ⟨sI_ne _ _ (Or.inl (by decide)), sI_ne _ _ (Or.inl (by decide)), sI_ne _ _ (Or.inl (by decide))⟩, fun i _ => sI_ne _ _ (Or.inl (by decide))⟩, cK_sI σ 1 (by decide) (by omega) (by omega), sI_ne _ _ (Or.inr (by decide)), fun k _ => sI_ne _ _ (Or.inl (by decide))⟩
theorem tl_Big (h : WP L N σ V T B) (n : Nat) : WBig σ (sI σ 44 3 1) V T B 0 n := ⟨V, T, by rw [sI_ne _ _ (Or.inl (by decide))]; exact h.2.2.2.2.2.1, Nat.le_refl _, Nat.le_refl _, by rw [sI_ne _ _ (Or.inl (by decide))]; exact h.2.1, Nat.le_refl _, h.2.2.2.1, sI_at _ _ _ _, tl_WF _ _ _ _⟩
end PUT
theorem tl_ne {σ τ : CS} {V T B c n : Nat} (h : WBig σ τ V T B c n) : ¬ (τ.1 44 3 = 0) := by
  obtain ⟨V', T', a1, a2, a3, a4, a5, a6, a7, a8⟩ := h
  rw [a7]; decide
/-- nothing is written any more -/
theorem left_big {d : Nat} (x1 x2 : Int32) {σ : CS} (h : ¬ (σ.1 44 3 = 0)) : (G_Writer (d + 1)).2.2 x1 x2 σ = some (0, σ) := by
  show F_Writer_putLeft (G_Writer d).1 (G_Writer d).2.1 (G_Writer d).2.2 _ _ _ = _
  unfold F_Writer_putLeft
  rw [if_neg h]
theorem term_big {d : Nat} (x1 x2 x3 : Int32) {σ : CS} (h : ¬ (σ.1 44 3 = 0)) : (G_Writer (d + 1)).2.1 x1 x2 x3 σ = some (0, σ) := by
  show F_Writer_putTerm (G_Writer d).1 (G_Writer d).2.1 (G_Writer d).2.2 _ _ _ _ = _
  unfold F_Writer_putTerm
  rw [if_neg h]
theorem k_typeOfVar {σ : CS} {k : Nat} (hk : k < 10) : f_Values_typeOfVariable (i32 k) σ = some (σ.1 42 k, σ) := by
  unfold f_Values_typeOfVariable B_Values_typeOfVariable_20
  rw [if_neg (show ¬ (i32 k < 0) from by rw [show (0 : Int32) = i32 0 from rfl, z_lt (by omega) (by omega)]; omega), if_neg (show ¬ ((10 : Int32) ≤ i32 k) from by rw [show (10 : Int32) = i32 10 from rfl, z_le (by omega) (by omega)]; omega), if_pos (show ix (i32 k) (lS 42) = true from c_ix (show k < lS 42 from hk) (by omega)), z_nn (by omega)]
theorem k_typeOfConstT {σ : CS} {V : Nat} (x : Int32) (hV : σ.1 38 4 = i32 V) (h1 : 1 ≤ V) (h : V ≤ 3072) : ∃ y τ, f_Values_typeOfConstant x σ = some (y, τ) ∧ JK σ τ V 1 := by
  have : ∃ z, f_Signs_constantTypeOf x σ = some (z, σ) := by
    unfold f_Signs_constantTypeOf B_Signs_constantTypeOf_31 B_Signs_constantTypeOf_32
    by_cases h1 : x - 97 < 0
    · exact ⟨_, if_pos h1⟩
    rw [if_neg h1]
    by_cases h2 : σ.1 34 5 ≤ x - 97
    · exact ⟨_, if_pos h2⟩
    rw [if_neg h2]
    by_cases h3 : 4 ≤ x - 97
    · exact ⟨_, if_pos h3⟩
    rw [if_neg h3, if_pos (show ix (x - 97) (lS 37) = true from ix_of (n := 4) (by omega) h1 h3)]
    exact ⟨_, rfl⟩
  obtain ⟨z, ez⟩ := this
  obtain ⟨y, τ, e, j⟩ := k_makeT 10 z 0 hV h1 h
  refine ⟨y, τ, ?_, j⟩
  unfold f_Values_typeOfConstant f_Values_typeAt
  rw [ez, Option.bind_some]
  dsimp only
  rw [obid, obid, e]
theorem k_constType {L : Lw} (hL : L.2.length ≤ 4) {σ : CS} {T c : Nat} {A : Tr} (hLP : lwP L σ T) (hc : 97 ≤ c) (hA : L.2[c - 97]? = some A) : ∃ q, f_Signs_constantTypeOf (i32 c) σ = some (i32 q, σ) ∧ fm (σ.1 35) A q ∧ q + ln A ≤ T ∧ pr (fxK σ) A := by
  obtain ⟨q, b1, b2, b3, b4⟩ := hLP.2.2.2.2 _ _ hA
  have hlt := (List.getElem?_eq_some_iff.mp hA).1
  refine ⟨q, ?_, b2, b3, b4⟩
  unfold f_Signs_constantTypeOf B_Signs_constantTypeOf_32
  rw [show i32 c - 97 = i32 (c - 97) from by rw [z97, z_sub hc], if_neg (show ¬ (i32 (c - 97) < 0) from by rw [show (0 : Int32) = i32 0 from rfl, z_lt (by omega) (by omega)]; omega), hLP.2.1, if_neg (show ¬ (i32 L.2.length ≤ i32 (c - 97)) from by rw [z_le (by omega) (by omega)]; omega), if_neg (show ¬ ((4 : Int32) ≤ i32 (c - 97)) from by rw [show (4 : Int32) = i32 4 from rfl, z_le (by omega) (by omega)]; omega), if_pos (show ix (i32 (c - 97)) (lS 37) = true from c_ix (show c - 97 < lS 37 by show c - 97 < 4; omega) (by omega)), z_nn (by omega), b1]
theorem k_typeOfConst {L : Lw} (hL : L.2.length ≤ 4) {σ : CS} {V T c : Nat} {A : Tr} (hLP : lwP L σ T) (hc : 97 ≤ c) (hA : L.2[c - 97]? = some A) (hV : σ.1 38 4 = i32 V) (h1 : 1 ≤ V) (h : V < 3072) : ∃ l, f_Values_typeOfConstant (i32 c) σ = some (i32 V, mkn σ V 10 l 0) ∧ tyS (mkn σ V 10 l 0) (V + 1) T (shp A) V := by
  obtain ⟨q, e, b2, b3, b4⟩ := k_constType hL hLP hc hA
  have cM := mkn_ch (A := AV) σ V 10 (i32 q) 0 (fun _ h => h)
  refine ⟨i32 q, ?_, h1, by omega, mkn_39 _ _ _ _ _, q, A, mkn_40 _ _ _ _ _, kK_fm (mkn_kp _ _ _ _ _ _) b2 b3, b3, by rw [cK_fx cM n36V]; exact b4, rfl⟩
  unfold f_Values_typeOfConstant f_Values_typeAt
  rw [e, Option.bind_some]
  dsimp only
  rw [obid, obid, k_make _ _ _ hV h1 h]
end KPUT

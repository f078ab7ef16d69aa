section MREAD3
variable {L : Lw} {ents : List (Tr × Tr)} {tx : List Nat}
theorem z_sub48 {c : Nat} (h : 48 ≤ c) : i32 c - 48 = i32 (c - 48) := by rw [z48, z_sub h]
theorem neg48 {c : Nat} (h : c < 48) : ¬ ((0 : Int32) ≤ i32 c - 48) := by
  have := z_neg h (by decide)
  rw [show (48 : Int32) = i32 48 from rfl, show (0 : Int32) = i32 0 from rfl, Int32.not_le]
  rw [this]; trivial
theorem le_pre {a m : Nat} (ha : a < 100000) (hm : m < 100000) : (i32 a ≤ i32 m - 1) ↔ a < m := by
  cases m with
  | zero =>
    constructor
    · intro h
      have h2 := Int32.le_trans (i_nn (show a < 2147483648 by omega)) h
      exact absurd h2 (by decide)
    · intro h; omega
  | succ m =>
    rw [z_sub1, z_le (by omega) (by omega)]; omega
/-- an entry is named -/
theorem m_entryIn {σ : MS} {c m : Nat} (hc : c < 1000) (hm : m ≤ 6) (h9 : σ.1 9 = i32 m) : f_in (i32 c - 48) 0 ((σ.1 9) - 1) σ = some (if 48 ≤ c ∧ c - 48 < m then 1 else 0, σ) := by
  rw [m_in, h9]
  by_cases h : 48 ≤ c
  · rw [z_sub48 h]
    by_cases h2 : c - 48 < m
    · rw [if_pos ⟨i_nn (by omega), (le_pre (by omega) (by omega)).mpr h2⟩, if_pos ⟨h, h2⟩]
    · rw [if_neg (fun h3 => h2 ((le_pre (by omega) (by omega)).mp h3.2)), if_neg (fun h3 => h2 h3.2)]
  · rw [if_neg (fun h3 => neg48 (by omega) h3.1), if_neg (fun h3 => h h3.1)]
theorem m_readsEntry0 (hw : WL L ents tx) {σ : MS} {p : Nat} (hs : RS L ents tx σ) (h56 : σ.1 56 = i32 p) (h57 : σ.1 57 = -9) (hp : p < tx.length) (he : (if 48 ≤ byt tx (p + 1) then ents[byt tx (p + 1) - 48]? else none) = none) : f_readsEntry σ = some (0, setF (setF σ 56 (i32 (p + 1))) 57 (i32 (p + 1))) := by
  have hl := hw.2.2.2.1
  have hl6 := hw.2.2.1
  have a56 : (setF σ 56 (i32 (p + 1))).1 56 = i32 (p + 1) := setF_eq _ _ _
  have a57 : (setF σ 56 (i32 (p + 1))).1 57 = -9 := by rw [setF_ne _ _ (by decide)]; exact h57
  have a9 : (setF σ 56 (i32 (p + 1))).1 9 = i32 ents.length := by rw [setF_ne _ _ (by decide)]; exact hs.2.2.2.2.2.2.1
  have a3 : (setF σ 56 (i32 (p + 1))).1 3 = i32 tx.length := by rw [setF_ne _ _ (by decide)]; exact hs.1
  unfold f_readsEntry
  rw [h56, show i32 p + 1 = i32 (p + 1) from by rw [z1, z_add]]
  by_cases hlt : p + 1 < tx.length
  · have hb : byt tx (p + 1) < 256 := by
      unfold byt
      rw [List.getD_eq_getElem?_getD, List.getElem?_eq_getElem hlt]
      exact hw.2.2.2.2 _ (List.getElem_mem _)
    rw [m_here1 a3 a56 hl hlt, Option.bind_some]
    dsimp only
    rw [show (setF σ 56 (i32 (p + 1))).2.1 2 (p + 1) = i32 (byt tx (p + 1)) from hs.2.1 (p + 1) hlt, m_entryIn (by omega) hl6 a9, Option.bind_some]
    dsimp only
    rw [if_neg (show ¬ (48 ≤ byt tx (p + 1) ∧ byt tx (p + 1) - 48 < ents.length) from by
      rintro ⟨h1, h2⟩
      rw [if_pos h1, List.getElem?_eq_getElem h2] at he
      cases he), if_pos rfl, a56, m_fails _ a57, Option.bind_some]
  · rw [m_here0 a3 a56 hl (by omega) (by omega), Option.bind_some]
    dsimp only
    rw [m_in, if_neg (fun h => absurd h.1 (by decide)), Option.bind_some]
    dsimp only
    rw [if_pos rfl, a56, m_fails _ a57, Option.bind_some]
theorem m_readsEntry1 (hw : WL L ents tx) {σ : MS} {V E T n nd p : Nat} {vt : List Rq} {rq : Rq} {e : Tr × Tr} (hs : RS L ents tx σ) (hv : vtOK L vt) (hn : vt.length = n) (hN : Need L σ V E T vt nd rq) (h1 : σ.1 1 = i32 T) (h19 : σ.1 19 = i32 V) (h21 : σ.1 21 = i32 E) (h46 : σ.1 46 = i32 n) (h56 : σ.1 56 = i32 p) (h57 : σ.1 57 = -9) (hp : p < tx.length) (he : (if 48 ≤ byt tx (p + 1) then ents[byt tx (p + 1) - 48]? else none) = some e) (b1 : T + 200 ≤ 9400) (b2 : E ≤ 42) (b3 : V + 1300 ≤ 2400) (b4 : 20 ≤ V) (b6 : 1 ≤ E) (bT : 1734 ≤ T) : p + 1 < tx.length ∧ Fnd (setF (setF σ 56 (i32 (p + 1))) 56 (i32 (p + 2))) (f_readsEntry σ) V E T p n nd rq (nft e.1 [] n) (qs (shp e.1) (evD e.2 []) n) := by
  have hl := hw.2.2.2.1
  have hl6 := hw.2.2.1
  have h48 : 48 ≤ byt tx (p + 1) := by
    by_cases h : 48 ≤ byt tx (p + 1)
    · exact h
    · rw [if_neg h] at he; cases he
  rw [if_pos h48] at he
  have hei := (List.getElem?_eq_some_iff.mp he).1
  have hlt : p + 1 < tx.length := byt_lt (by omega)
  refine ⟨hlt, ?_⟩
  obtain ⟨w1, w2, w3, w4⟩ := hw.2.1 e (List.mem_of_getElem? he)
  have hval : RV L (ctx vt) (shp e.1) (evD e.2 []) := (T1 _ _ _ _ _ w3 (enE_nil L (ctx vt))).2.1 rfl
  have hb : byt tx (p + 1) < 256 := by omega
  have a56 : (setF σ 56 (i32 (p + 1))).1 56 = i32 (p + 1) := setF_eq _ _ _
  have a9 : (setF σ 56 (i32 (p + 1))).1 9 = i32 ents.length := by rw [setF_ne _ _ (by decide)]; exact hs.2.2.2.2.2.2.1
  have a3 : (setF σ 56 (i32 (p + 1))).1 3 = i32 tx.length := by rw [setF_ne _ _ (by decide)]; exact hs.1
  generalize hσ1 : setF (setF σ 56 (i32 (p + 1))) 56 (i32 (p + 2)) = σ1
  have k1 : kp σ σ1 V E T := by rw [← hσ1]; exact kp_tr (kp_setF _ 56 _ V E T) (kp_setF _ 56 _ V E T) (Nat.le_refl _) (Nat.le_refl _) (Nat.le_refl _)
  have c1 : ch FR AR σ σ1 := by rw [← hσ1]; exact ch_tr (ch_setF _ _ (by simp [FR])) (ch_setF _ _ (by simp [FR]))
  have o1 : ∀ k, k ≠ 56 → σ1.1 k = σ.1 k := fun k hk => by rw [← hσ1, setF_ne _ _ hk, setF_ne _ _ hk]
  have hs1 := RS_kp hw hs k1 b4 b6 bT c1
  have hN1 : Need L σ1 V E T vt nd rq := Need_kp hN k1 (Nat.le_refl _) (Nat.le_refl _) (Nat.le_refl _) (fun k h1 h2 => o1 k (by omega))
  have hx : ntOK σ1 T (e.1, []) 0 (i32 (357 + 102 * (byt tx (p + 1) - 48))) := by
    have e0 : nft e.1 [] 0 = e.1 := nft_id e.1 [] w1 w2.2
    refine Or.inl ⟨by show fits (nft e.1 [] 0) 0; rw [e0]; exact w2, _, rfl, by show fm _ (nft e.1 [] 0) _; rw [e0]; exact (hs1.2.2.2.2.2.2.2.1 _ _ he).1, ?_⟩
    show _ + ln (nft e.1 [] 0) ≤ T
    rw [e0]
    have : ln e.1 ≤ 50 := w2.1
    omega
  obtain ⟨r, τ, T1, t1, t2, t3, t4, t5, t6, t7, t8, t9⟩ := m_typeNow (k := 0) hw hs1 hv hn (by omega) w1 (enV_nil L _) hx (by rw [o1 1 (by decide)]; exact h1) (by rw [o1 19 (by decide)]; exact h19) (by rw [o1 21 (by decide)]; exact h21) (by rw [o1 46 (by decide)]; exact h46) (by omega) b2 b3 b4 b6
  have hsτ := RS_kp hw hs1 t2 b4 b6 bT (cFR (cFE t3))
  have e46 : τ.1 46 = i32 n := by rw [t3.1 46 (by simp [FY]), o1 46 (by decide)]; exact h46
  have e57 : τ.1 57 = -9 := by rw [t3.1 57 (by simp [FY]), o1 57 (by decide)]; exact h57
  have hN2 : Need L τ V E T1 vt nd rq := Need_kp hN1 t2 (Nat.le_refl _) (Nat.le_refl _) t4 (fun k h1 h2 => t3.1 k (by simp only [FY]; simp; omega))
  have hln2 : ln e.2 ≤ 50 := w4.1
  have hpr2 := HT_pr (W34 hw).2 (fxM τ) _ _ _ _ w3
  have hf2 := (hsτ.2.2.2.2.2.2.2.1 _ _ he).2
  obtain ⟨v, υ, V1, u1, u2, u3, u4, u5, u6, u7, u8⟩ := m_worksData (V := V) (E := E) (T := T1) (e := 0) (ρ := []) (W34 hw).2 w3 hpr2 hf2 (by omega) (by omega) rfl w4.2 (show rpM τ V E T1 true (eL []) 0 from b6) (by omega) (fun u hu => by cases hu) t7 (by omega) hln2
  have hnn : (ctx vt).length = n := by rw [ctx_len]; exact hn
  have v1 : υ.1 1 = i32 T1 := by rw [u7.1 1 (by simp)]; exact t6
  have v21 : υ.1 21 = i32 E := by rw [u7.1 21 (by simp)]; exact t8
  have v46 : υ.1 46 = i32 n := by rw [u7.1 46 (by simp)]; exact e46
  obtain ⟨r2, κ, k1', k2, k3, k4, k5, k6⟩ := m_toldValue (lev := n) (σ0 := τ) (V := V) (E := E) (W34 hw).2 hval hnn (by have := hv.1; omega) v1 u2 v21 u5 u6 u3 (Nat.le_refl _) (by omega) (by omega) (by omega) b4 (RS_nm hsτ) (ch_mo u7 (by simp [FY]) (by simp [AY]))
  have fin : ∀ {f : Option (Int32 × MS)}, Fnd σ1 f V E T p n nd rq (nft e.1 [] n) (qs (shp e.1) (evD e.2 []) n) → Fnd σ1 (f.bind fun q1 => some (0, q1.2)) V E T p n nd rq (nft e.1 [] n) (qs (shp e.1) (evD e.2 []) n) := by
    intro f hf
    constructor
    · intro h
      obtain ⟨τ, T', g, h', e, rest⟩ := hf.1 h
      exact ⟨τ, T', g, h', by rw [e]; rfl, rest⟩
    · intro h
      obtain ⟨τ, e, rest⟩ := hf.2 h
      exact ⟨τ, by rw [e]; rfl, rest⟩
  have main : f_readsEntry σ = (f_endsFound (i32 p) r r2 κ).bind fun q1 => some (0, q1.2) := by
    unfold f_readsEntry
    rw [h56, show i32 p + 1 = i32 (p + 1) from by rw [z1, z_add], m_here1 a3 a56 hl hlt, Option.bind_some]
    dsimp only
    rw [show (setF σ 56 (i32 (p + 1))).2.1 2 (p + 1) = i32 (byt tx (p + 1)) from hs.2.1 (p + 1) hlt, m_entryIn (by omega) hl6 a9, if_pos (show 48 ≤ byt tx (p + 1) ∧ byt tx (p + 1) - 48 < ents.length from ⟨h48, hei⟩), Option.bind_some]
    dsimp only
    rw [if_neg (show ¬ ((1 : Int32) = 0) from by decide), a56, show i32 (p + 1) + 1 = i32 (p + 2) from by rw [z1, z_add], hσ1, z_sub48 h48, show (357 : Int32) + 102 * i32 (byt tx (p + 1) - 48) = i32 (357 + 102 * (byt tx (p + 1) - 48)) from by rw [z357, z102, z_mul, z_add], show (0 : Int32) = i32 0 from rfl, t1, Option.bind_some]
    dsimp only
    rw [z51, z_add]
    have u1' : f_worksData (i32 (357 + 102 * (byt tx (p + 1) - 48) + 51)) (i32 0) (i32 0) τ = some (i32 v, υ) := u1
    rw [u1', Option.bind_some]
    dsimp only
    rw [v46, t7, t8, k1', Option.bind_some]
  rw [main]
  have hsκ := RS_kp hw hsτ k2 b4 b6 (by omega) (cFR (cFE (cYA k3)))
  have hN3 : ∀ T2, T1 ≤ T2 → Need L κ V E T2 vt nd rq := fun T2 hT2 => Need_kp hN2 k2 (Nat.le_refl _) (Nat.le_refl _) hT2 (fun k h1 h2 => k3.1 k (by simp only [FY]; simp; omega))
  have kκ : kp σ1 κ V E T := kp_tr t2 (kp_le k2 (Nat.le_refl _) (Nat.le_refl _) t4) (Nat.le_refl _) (Nat.le_refl _) (Nat.le_refl _)
  have cκ : ch FE AF σ1 κ := ch_tr (cFE t3) (cFE (cYA k3))
  have w46 : κ.1 46 = i32 n := by rw [k3.1 46 (by simp [FY])]; exact e46
  have w57 : κ.1 57 = -9 := by rw [k3.1 57 (by simp [FY])]; exact e57
  have hWn : fits (nft e.1 [] n) n → WT L (nft e.1 [] n) (ctx vt) := fun h => nft_WT _ _ _ _ _ w1 (enV_nil L _) hnn ((dp_nft _ _ _ _ _ w1 (enV_nil L _) hnn).mp h.2)
  have p1 : ∀ T2, T1 ≤ T2 → plc κ T2 (nft e.1 [] n) n r T := by
    intro T2 hT2
    rcases t9 with ⟨a, b, c, d⟩ | ⟨a, b⟩
    · exact Or.inl ⟨a, b, kp_fm k2 c d, Nat.le_trans d hT2⟩
    · exact Or.inr ⟨a, b⟩
  rcases k6 with ⟨j1, rfl, j2, j3⟩ | ⟨j1, rfl, j2⟩
  · have hln3 : ln (qs (shp e.1) (evD e.2 []) n) ≤ 50 := j1.1
    exact fin (m_fnd hw kκ cκ (T1 := T1 + ln (qs (shp e.1) (evD e.2 []) n)) (by omega) (by omega) hsκ hv hn (hN3 _ (by omega)) j2 k4 k5 w46 w57 hWn (p1 _ (by omega)) (fun _ => Or.inl ⟨j1, rfl, j3, Nat.le_refl _⟩) (by omega) b2 b3 b4 b6 (fun _ => by omega))
  · exact fin (m_fnd (h := 0) hw kκ cκ (T1 := T1) t4 (by omega) hsκ hv hn (hN3 _ (Nat.le_refl _)) j2 k4 k5 w46 w57 hWn (p1 _ (Nat.le_refl _)) (fun _ => Or.inr ⟨j1, rfl⟩) (by omega) b2 b3 b4 b6 (fun h => absurd h j1))
end MREAD3

section TOP17
noncomputable def aLaws (s : Sta) : Int32 × Sta := match spL s.tx 40 0 ([], []) 0 with | .ok y => (i32 y.2, ([], y.1, [], [], [], (none, none))) | .error e => (flt e, s)
theorem lwOK_nil : lwOK ([], []) := ⟨Nat.zero_le _, Nat.zero_le _, fun k I h => by simp at h, fun k T h => by simp at h⟩
def lw0 (σ : MS) : MS := setF (setF (setF (setF (st σ) 9 0) 4 0) 5 0) 7 969
theorem lw0_e (σ : MS) : setF (setF (setF (setF (st σ) 9 0) 4 0) 5 0) 7 969 = lw0 σ := rfl
theorem LF_lw0 (σ : MS) : LF σ (lw0 σ) := LF_tr (LF_MF (MF_st σ)) (LF_tr (LF_tr (LF_tr (LF_F _ _ (by simp [FM])) (LF_F _ _ (by simp [FM]))) (LF_F _ _ (by simp [FM]))) (LF_F _ _ (by simp [FM])))
theorem DI_lw0 {σ : MS} {tx : List Nat} (ht : MAt σ tx) (hn : MAn σ) (hb : b3 σ) : DI ([], []) tx (lw0 σ) 20 1 1734 0 := by
  have o : ∀ k, k ≠ 4 → k ≠ 5 → k ≠ 7 → k ≠ 9 → (lw0 σ).1 k = (st σ).1 k := fun k a b c d => by
    unfold lw0
    rw [setF_ne _ _ c, setF_ne _ _ b, setF_ne _ _ a, setF_ne _ _ d]
  have o7 : (lw0 σ).1 7 = i32 969 := by
    unfold lw0
    rw [setF_eq]; rfl
  obtain ⟨a1, a2, a3, a4, a5, a6⟩ := Pos_st σ
  refine ⟨⟨?_, ht.2, ?_, ?_, ⟨969, o7, Nat.le_refl _, fun k I h => by simp at h, fun k T h => by simp at h⟩, fun k hk => absurd hk (Nat.not_lt_zero _), ?_, fun e x h => by simp at h, hn.1, hn.2⟩, ⟨?_, ?_, ?_, ?_, ?_, a6⟩, o7, hb⟩
  · rw [o 3 (by decide) (by decide) (by decide) (by decide), st_o _ (by decide) (by decide) (by decide) (by decide) (by decide) (by decide)]; exact ht.1
  · unfold lw0; rw [setF_ne _ _ (by decide), setF_ne _ _ (by decide), setF_eq]; rfl
  · unfold lw0; rw [setF_ne _ _ (by decide), setF_eq]; rfl
  · unfold lw0; rw [setF_ne _ _ (by decide), setF_ne _ _ (by decide), setF_ne _ _ (by decide), setF_eq]; rfl
  · rw [o 1 (by decide) (by decide) (by decide) (by decide)]; exact a1
  · rw [o 19 (by decide) (by decide) (by decide) (by decide)]; exact a2
  · rw [o 21 (by decide) (by decide) (by decide) (by decide)]; exact a3
  · rw [o 56 (by decide) (by decide) (by decide) (by decide)]; exact a4
  · rw [o 57 (by decide) (by decide) (by decide) (by decide)]; exact a5
theorem m_readsLaws {σ : MS} {tx : List Nat} (hl : tx.length ≤ 32) (hbt : ∀ x ∈ tx, x < 256) (ht : MAt σ tx) (hn : MAn σ) (hb : b3 σ) : LO tx σ (f_readsLaws σ) (spL tx 40 0 ([], []) 0) := by
  unfold f_readsLaws
  rw [m_starts, Option.bind_some]
  dsimp only
  rw [lw0_e]
  exact LO_pre (LF_lw0 σ) (m_lawsL hl hbt 40 0 ([], []) 0 10000 (lw0 σ) (by omega) (Nat.le_of_ble_eq_true rfl) lwOK_nil (DI_lw0 ht hn hb) (Nat.zero_le _))
/-- the signs of the families are put aside and brought back -/
def s33 (σ : MS) : MS := setA (setA (setA σ 33 0 (σ.2.1 3 0)) 33 1 (σ.2.1 3 1)) 33 2 (σ.2.1 3 2)
def b33 (σ : MS) : MS := setA (setA (setA σ 3 0 (σ.2.1 33 0)) 3 1 (σ.2.1 33 1)) 3 2 (σ.2.1 33 2)
theorem m_l12s {σ : MS} (x1 x2 : Int32) {F j : Nat} (hj : j < 3) (h : bzb (σ.2.1 3 j) = true) : L_laws_12 (F + 1) x1 x2 (i32 j) σ = L_laws_12 F x1 x2 (i32 (j + 1)) (setA σ 33 j (σ.2.1 3 j)) := by
  have e : i32 j + 1 = i32 (j + 1) := by rw [z1, z_add]
  rw [L_laws_12, if_neg (show ¬ ((3 : Int32) ≤ i32 j) by rw [z3, z_le (by omega) (by omega)]; omega), if_pos (c_ix (show j < aln 3 from Nat.lt_of_lt_of_le hj (Nat.le_refl _)) (by omega)), if_pos (c_ix (show j < aln 33 from Nat.lt_of_lt_of_le hj (Nat.le_refl _)) (by omega)), z_nn (by omega), if_pos h, e]
theorem m_laws12 {σ : MS} (hb : b3 σ) (x1 x2 : Int32) {F : Nat} (hF : 4 ≤ F) : ∃ G, L_laws_12 F x1 x2 0 σ = L_laws_12 (G + 1) x1 x2 3 (s33 σ) := by
  obtain ⟨G, rfl⟩ : ∃ G, F = G + 4 := ⟨F - 4, by omega⟩
  refine ⟨G, ?_⟩
  have q1 : (setA σ 33 0 (σ.2.1 3 0)).2.1 3 1 = σ.2.1 3 1 := setA_ne _ _ (Or.inl (by decide))
  have q2 : (setA (setA σ 33 0 (σ.2.1 3 0)) 33 1 (σ.2.1 3 1)).2.1 3 2 = σ.2.1 3 2 := by rw [setA_ne _ _ (Or.inl (by decide)), setA_ne _ _ (Or.inl (by decide))]
  have s0 := m_l12s (σ := σ) x1 x2 (F := G + 3) (j := 0) (by omega) (hb 0 (by omega))
  have s1 := m_l12s (σ := setA σ 33 0 (σ.2.1 3 0)) x1 x2 (F := G + 2) (j := 1) (by omega) (by rw [q1]; exact hb 1 (by omega))
  rw [q1] at s1
  have s2 := m_l12s (σ := setA (setA σ 33 0 (σ.2.1 3 0)) 33 1 (σ.2.1 3 1)) x1 x2 (F := G + 1) (j := 2) (by omega) (by rw [q2]; exact hb 2 (by omega))
  rw [q2] at s2
  exact s0.trans (s1.trans s2)
theorem m_l60s {τ : MS} {F j : Nat} (hj : j < 3) (h : bzb (τ.2.1 33 j) = true) : L_laws_60 (F + 1) (i32 j) τ = L_laws_60 F (i32 (j + 1)) (setA τ 3 j (τ.2.1 33 j)) := by
  have e : i32 j + 1 = i32 (j + 1) := by rw [z1, z_add]
  rw [L_laws_60, if_neg (show ¬ ((3 : Int32) ≤ i32 j) by rw [z3, z_le (by omega) (by omega)]; omega), if_pos (c_ix (show j < aln 33 from Nat.lt_of_lt_of_le hj (Nat.le_refl _)) (by omega)), if_pos (c_ix (show j < aln 3 from Nat.lt_of_lt_of_le hj (Nat.le_refl _)) (by omega)), z_nn (by omega), if_pos h, e]
theorem m_laws60 {τ : MS} (e0 : bzb (τ.2.1 33 0) = true) (e1 : bzb (τ.2.1 33 1) = true) (e2 : bzb (τ.2.1 33 2) = true) {F : Nat} (hF : 4 ≤ F) : L_laws_60 F 0 τ = some (-10 - (b33 τ).1 57, b33 τ) := by
  obtain ⟨G, rfl⟩ : ∃ G, F = G + 4 := ⟨F - 4, by omega⟩
  have q1 : (setA τ 3 0 (τ.2.1 33 0)).2.1 33 1 = τ.2.1 33 1 := setA_ne _ _ (Or.inl (by decide))
  have q2 : (setA (setA τ 3 0 (τ.2.1 33 0)) 3 1 (τ.2.1 33 1)).2.1 33 2 = τ.2.1 33 2 := by rw [setA_ne _ _ (Or.inl (by decide)), setA_ne _ _ (Or.inl (by decide))]
  have s0 := m_l60s (τ := τ) (F := G + 3) (j := 0) (by omega) e0
  have s1 := m_l60s (τ := setA τ 3 0 (τ.2.1 33 0)) (F := G + 2) (j := 1) (by omega) (by rw [q1]; exact e1)
  rw [q1] at s1
  have s2 := m_l60s (τ := setA (setA τ 3 0 (τ.2.1 33 0)) 3 1 (τ.2.1 33 1)) (F := G + 1) (j := 2) (by omega) (by rw [q2]; exact e2)
  rw [q2] at s2
  have s3 : L_laws_60 (G + 1) (i32 3) (b33 τ) = some (-10 - (b33 τ).1 57, b33 τ) := by
    rw [L_laws_60, if_pos (show (3 : Int32) ≤ i32 3 from by decide)]
  exact s0.trans (s1.trans (s2.trans s3))
theorem s33_ne (σ : MS) {c : Nat} (h : c ≠ 33) : (s33 σ).2.1 c = σ.2.1 c := by
  funext i
  unfold s33
  rw [setA_ne _ _ (Or.inl h), setA_ne _ _ (Or.inl h), setA_ne _ _ (Or.inl h)]
theorem s33_at (σ : MS) {i : Nat} (h : i < 3) : (s33 σ).2.1 33 i = σ.2.1 3 i := by
  unfold s33
  obtain rfl | rfl | rfl : i = 0 ∨ i = 1 ∨ i = 2 := by omega
  · rw [setA_ne _ _ (Or.inr (by decide)), setA_ne _ _ (Or.inr (by decide)), setA_at]
  · rw [setA_ne _ _ (Or.inr (by decide)), setA_at]
  · rw [setA_at]
theorem b33_ne (σ : MS) {c : Nat} (h : c ≠ 3) : (b33 σ).2.1 c = σ.2.1 c := by
  funext i
  unfold b33
  rw [setA_ne _ _ (Or.inl h), setA_ne _ _ (Or.inl h), setA_ne _ _ (Or.inl h)]
theorem b33_at (σ : MS) {i : Nat} (h : i < 3) : (b33 σ).2.1 3 i = σ.2.1 33 i := by
  unfold b33
  obtain rfl | rfl | rfl : i = 0 ∨ i = 1 ∨ i = 2 := by omega
  · rw [setA_ne _ _ (Or.inr (by decide)), setA_ne _ _ (Or.inr (by decide)), setA_at]
  · rw [setA_ne _ _ (Or.inr (by decide)), setA_at]
  · rw [setA_at]
theorem MAl_y {σ τ : MS} {L : Lw} (hL : lwOK L) (h : MAl σ L) (a4 : τ.1 4 = σ.1 4) (a5 : τ.1 5 = σ.1 5) (a7 : τ.1 7 = i32 0) (b : ∀ k, k < 3 → τ.2.1 3 k = σ.2.1 3 k) (c : ∀ i, i < 357 → τ.2.1 1 i = σ.2.1 1 i) : MAl τ L := by
  obtain ⟨h1, h2, h3, h4, h5, h6, h7⟩ := h
  have l1 := hL.1
  have l2 := hL.2.1
  refine ⟨by rw [a4]; exact h1, by rw [a5]; exact h2, a7, fun k I hI => ?_, fun k T hT => ?_, fun k hk => ?_, fun k hk => ?_⟩
  · have hk := (List.getElem?_eq_some_iff.mp hI).1
    have hn : ln I ≤ 50 := (hL.2.2.1 k I hI).2.2.1
    exact fm_sh (fun i hi => c _ (by omega)) (h4 k I hI)
  · have hk := (List.getElem?_eq_some_iff.mp hT).1
    have hn : ln T ≤ 50 := (hL.2.2.2 k T hT).2.1
    exact fm_sh (fun i hi => c _ (by omega)) (h5 k T hT)
  · have := h6 k hk
    unfold fxM at this ⊢
    rw [b k (by omega)]; exact this
  · rw [b k hk]; exact h7 k hk
theorem m_laws {σ : MS} {s : Sta} (hs : SOK s) (h : MA σ s) : MO (f_laws σ) (aLaws s) := by
  obtain ⟨h1, h2, h3, h4, h5, h6, h7⟩ := h
  have hb : b3 σ := h2.2.2.2.2.2.2
  unfold f_laws aLaws
  obtain ⟨G, hG⟩ := m_laws12 hb (σ.1 4) (σ.1 5) (F := 10000) (Nat.le_of_ble_eq_true rfl)
  rw [hG, L_laws_12, if_pos (show (3 : Int32) ≤ 3 from by decide)]
  have t0 : MAt (s33 σ) s.tx := MAt_x h1 rfl (s33_ne σ (by decide))
  have n0 : MAn (s33 σ) := MAn_x h4 (fun _ _ => rfl) (fun _ _ => by rw [s33_ne σ (by decide)])
  have b0 : b3 (s33 σ) := fun k hk => by rw [s33_ne σ (by decide)]; exact hb k hk
  obtain ⟨x, τ, e1, hm, hbτ, hr⟩ := m_readsLaws hs.1 hs.2.1 t0 n0 b0
  rw [e1, Option.bind_some]
  dsimp only
  have e57 : (setF τ 7 0).1 57 = τ.1 57 := setF_ne _ _ (by decide)
  rw [e57]
  obtain ⟨⟨c1, c2⟩, c3, c4, c5⟩ := hm
  have q33 : ∀ k, k < 3 → τ.2.1 33 k = σ.2.1 3 k := fun k hk => by rw [c2 33 (by decide)]; exact s33_at σ hk
  have qr : ∀ c, c ∉ 3 :: AR → c ≠ 33 → τ.2.1 c = σ.2.1 c := fun c hc hn => by rw [c2 c hc, s33_ne σ hn]
  have q1 : ∀ q, q < 969 ∨ (1326 ≤ q ∧ q < 1734) → τ.2.1 1 q = σ.2.1 1 q := fun q hq => by rw [c5 q hq, s33_ne σ (by decide)]
  have q11 : ∀ i, i < 10 → τ.2.1 11 i = σ.2.1 11 i := fun i hi => by rw [c4 i hi, s33_ne σ (by decide)]
  have qf : ∀ k, k ∉ 4 :: 5 :: 7 :: FM → τ.1 k = σ.1 k := c1
  have ql : ∀ i, i < 20 → τ.2.2 i = σ.2.2 i := c3
  cases hsp : spL s.tx 40 0 ([], []) 0 with
  | error e =>
    rw [hsp] at hr
    obtain ⟨he, h57⟩ := hr
    rw [h57, if_neg (nlt0 (by omega))]
    have w1 : ∀ k, k ≠ 4 → k ≠ 5 → k ≠ 7 → (setF (setF (setF τ 7 0) 4 (σ.1 4)) 5 (σ.1 5)).1 k = τ.1 k := fun k a b c => by rw [setF_ne _ _ b, setF_ne _ _ a, setF_ne _ _ c]
    have w4 : (setF (setF (setF τ 7 0) 4 (σ.1 4)) 5 (σ.1 5)).1 4 = σ.1 4 := by rw [setF_ne _ _ (by decide), setF_eq]
    have w5 : (setF (setF (setF τ 7 0) 4 (σ.1 4)) 5 (σ.1 5)).1 5 = σ.1 5 := setF_eq _ _ _
    have w7 : (setF (setF (setF τ 7 0) 4 (σ.1 4)) 5 (σ.1 5)).1 7 = i32 0 := by rw [setF_ne _ _ (by decide), setF_ne _ _ (by decide), setF_eq]; rfl
    have w2 : (setF (setF (setF τ 7 0) 4 (σ.1 4)) 5 (σ.1 5)).2 = τ.2 := rfl
    generalize setF (setF (setF τ 7 0) 4 (σ.1 4)) 5 (σ.1 5) = υ at w1 w4 w5 w7 w2
    have z33 : ∀ k, k < 3 → υ.2.1 33 k = σ.2.1 3 k := fun k hk => by rw [w2]; exact q33 k hk
    rw [m_laws60 (by rw [z33 0 (by omega)]; exact hb 0 (by omega)) (by rw [z33 1 (by omega)]; exact hb 1 (by omega)) (by rw [z33 2 (by omega)]; exact hb 2 (by omega)) (F := 10000) (Nat.le_of_ble_eq_true rfl)]
    have v1 : (b33 υ).1 = υ.1 := rfl
    have v2 : (b33 υ).2.2 = τ.2.2 := by show υ.2.2 = _; rw [w2]
    have v3 : ∀ k, k < 3 → (b33 υ).2.1 3 k = σ.2.1 3 k := fun k hk => by rw [b33_at υ hk, z33 k hk]
    have vr : ∀ c, c ≠ 3 → (b33 υ).2.1 c = τ.2.1 c := fun c hc => by rw [b33_ne υ hc, w2]
    generalize b33 υ = ω at v1 v2 v3 vr
    have vf : ∀ k, k ≠ 4 → k ≠ 5 → k ≠ 7 → k ∉ 4 :: 5 :: 7 :: FM → ω.1 k = σ.1 k := fun k a b c d => by rw [v1, w1 k a b c, qf k d]
    have vr2 : ∀ c, c ∉ 3 :: AR → c ≠ 33 → ω.2.1 c = σ.2.1 c := fun c hc h33 => by rw [vr c (fun e => hc (by rw [e]; exact List.mem_cons_self ..)), qr c hc h33]
    have v57 : ω.1 57 = i32 e := by rw [v1, w1 57 (by decide) (by decide) (by decide)]; exact h57
    have vq : ∀ q, q < 969 ∨ (1326 ≤ q ∧ q < 1734) → ω.2.1 1 q = σ.2.1 1 q := fun q hq => by rw [vr 1 (by decide), q1 q hq]
    refine ⟨ω, by rw [v57]; rfl, MAt_x h1 (vf 3 (by decide) (by decide) (by decide) (by decide)) (vr2 2 (by decide) (by decide)), MAl_y hs.2.2.1 h2 (by rw [v1, w4]) (by rw [v1, w5]) (by rw [v1, w7]) v3 (fun i hi => vq i (by omega)), MAe_x hs.2.2.2.1 h3 (vf 8 (by decide) (by decide) (by decide) (by decide)) (fun i _ hi => vq i (by omega)), MAn_x h4 (fun k hk => by rw [v2]; exact ql k hk) (fun k hk => by rw [vr 11 (by decide)]; exact q11 k hk), MAs_x hs.2.2.2.2.1 h5 (vf 10 (by decide) (by decide) (by decide) (by decide)) (vr2 4 (by decide) (by decide)) (fun i hi hi2 => vq i (by omega)), MAu_x h6 (vf 15 (by decide) (by decide) (by decide) (by decide)) (vr2 5 (by decide) (by decide)) (vr2 6 (by decide) (by decide)) (vr2 7 (by decide) (by decide)), MAi_x h7 (vr2 8 (by decide) (by decide)) (vr2 9 (by decide) (by decide))⟩
  | ok y =>
    rw [hsp] at hr
    obtain ⟨rfl, h57, h77, hRS⟩ := hr
    have ho := okL 40 0 ([], []) 0 y lwOK_nil (Nat.zero_le _) hsp
    have l1 := ho.1.1
    have l2 := ho.1.2.1
    obtain ⟨f1, f2⟩ := RS_969 hRS h77
    rw [h57, if_pos n9lt]
    have hb2 : f_bring 1 969 1 0 357 (setF τ 7 0) = some (0, brg (setF τ 7 0) 1 969 1 0 357) := m_bring _ (i := 969) (j := 0) (n := 357) (show 969 + 357 ≤ aln 1 from Nat.le_of_ble_eq_true rfl) (show 0 + 357 ≤ aln 1 from Nat.le_of_ble_eq_true rfl) (Or.inr (Or.inl (by omega)))
    rw [hb2, Option.bind_some]
    dsimp only
    rw [if_pos (show ix 0 (aln 9) = true from by decide), if_pos (show ix 1 (aln 9) = true from by decide)]
    have o1 : ∀ k, k < 357 → (brg (setF τ 7 0) 1 969 1 0 357).2.1 1 (0 + k) = τ.2.1 1 (969 + k) := fun k hk => brg_in _ _ _ _ _ _ _ hk
    have oo : ∀ c, c ≠ 1 → (brg (setF τ 7 0) 1 969 1 0 357).2.1 c = τ.2.1 c := fun c hc => brg_ne _ _ _ _ _ _ hc
    have of : (brg (setF τ 7 0) 1 969 1 0 357).1 = (setF τ 7 0).1 := rfl
    have ol : (brg (setF τ 7 0) 1 969 1 0 357).2.2 = τ.2.2 := rfl
    generalize brg (setF τ 7 0) 1 969 1 0 357 = υ at o1 oo of ol
    have v1 : ∀ k, k ≠ 3 → k ≠ 8 → k ≠ 10 → k ≠ 15 → k ≠ 7 → (setF (setF (setF (setF υ 3 0) 8 0) 10 0) 15 0).1 k = τ.1 k := fun k a b c d e => by rw [setF_ne _ _ d, setF_ne _ _ c, setF_ne _ _ b, setF_ne _ _ a, of, setF_ne _ _ e]
    have v3 : (setF (setF (setF (setF υ 3 0) 8 0) 10 0) 15 0).1 3 = i32 0 := by rw [setF_ne _ _ (by decide), setF_ne _ _ (by decide), setF_ne _ _ (by decide), setF_eq]; rfl
    have v7 : (setF (setF (setF (setF υ 3 0) 8 0) 10 0) 15 0).1 7 = i32 0 := by rw [setF_ne _ _ (by decide), setF_ne _ _ (by decide), setF_ne _ _ (by decide), setF_ne _ _ (by decide), of, setF_eq]; rfl
    have v8 : (setF (setF (setF (setF υ 3 0) 8 0) 10 0) 15 0).1 8 = i32 0 := by rw [setF_ne _ _ (by decide), setF_ne _ _ (by decide), setF_eq]; rfl
    have v10 : (setF (setF (setF (setF υ 3 0) 8 0) 10 0) 15 0).1 10 = i32 0 := by rw [setF_ne _ _ (by decide), setF_eq]; rfl
    have v15 : (setF (setF (setF (setF υ 3 0) 8 0) 10 0) 15 0).1 15 = i32 0 := by rw [setF_eq]; rfl
    have v2 : (setF (setF (setF (setF υ 3 0) 8 0) 10 0) 15 0).2 = υ.2 := rfl
    generalize setF (setF (setF (setF υ 3 0) 8 0) 10 0) 15 0 = ω at v1 v2 v3 v7 v8 v10 v15
    have u9 : ∀ i, i < 2 → (setA (setA ω 9 ((0 : Int32).toNatClampNeg) (-9)) 9 ((1 : Int32).toNatClampNeg) (-9)).2.1 9 i = -9 := fun i hi => by
      obtain rfl | rfl : i = 0 ∨ i = 1 := by omega
      · exact Eq.trans (setA_ne (setA ω 9 0 (-9)) (j := 9) (i := 1) (q := 9) (k := 0) (-9) (Or.inr (by decide))) (setA_at _ _ _ _)
      · exact setA_at _ _ _ _
    have ur : ∀ c, c ≠ 9 → (setA (setA ω 9 ((0 : Int32).toNatClampNeg) (-9)) 9 ((1 : Int32).toNatClampNeg) (-9)).2.1 c = υ.2.1 c := fun c hc => by
      funext i
      rw [setA_ne _ _ (Or.inl hc), setA_ne _ _ (Or.inl hc), v2]
    have uf : (setA (setA ω 9 ((0 : Int32).toNatClampNeg) (-9)) 9 ((1 : Int32).toNatClampNeg) (-9)).1 = ω.1 := rfl
    have ul : (setA (setA ω 9 ((0 : Int32).toNatClampNeg) (-9)) 9 ((1 : Int32).toNatClampNeg) (-9)).2.2 = τ.2.2 := by show ω.2.2 = _; rw [v2, ol]
    generalize setA (setA ω 9 ((0 : Int32).toNatClampNeg) (-9)) 9 ((1 : Int32).toNatClampNeg) (-9) = κ at u9 ur uf ul
    have g1 : ∀ k, k < 357 → κ.2.1 1 k = τ.2.1 1 (969 + k) := fun k hk => by
      have := o1 k hk
      rw [Nat.zero_add] at this
      rw [ur 1 (by decide), this]
    refine ⟨κ, rfl, ⟨by rw [uf, v3]; rfl, fun k hk => absurd hk (Nat.not_lt_zero _)⟩, ⟨by rw [uf, v1 4 (by decide) (by decide) (by decide) (by decide) (by decide)]; exact hRS.2.2.1, by rw [uf, v1 5 (by decide) (by decide) (by decide) (by decide) (by decide)]; exact hRS.2.2.2.1, by rw [uf, v7], fun k I hI => ?_, fun k U hU => ?_, fun k hk => ?_, fun k hk => ?_⟩, ⟨by rw [uf, v8]; rfl, fun e x hx => ?_⟩, MAn_x h4 (fun k hk => by rw [ul]; exact ql k hk) (fun k hk => by rw [ur 11 (by decide), oo 11 (by decide)]; exact q11 k hk), ⟨by rw [uf, v10]; rfl, fun i z hz => ?_⟩, ⟨by rw [uf, v15]; rfl, trivial⟩, u9 0 (by omega), u9 1 (by omega)⟩
    · have hk := (List.getElem?_eq_some_iff.mp hI).1
      have hk' : k < y.1.1.length := hk
      have hn : ln I ≤ 50 := (ho.1.2.2.1 k I hI).2.2.1
      exact fm_sh (fun i hi => by rw [g1 _ (by omega), Nat.add_assoc]) (f1 k I hI)
    · have hk := (List.getElem?_eq_some_iff.mp hU).1
      have hk' : k < y.1.2.length := hk
      have hn : ln U ≤ 50 := (ho.1.2.2.2 k U hU).2.1
      exact fm_sh (fun i hi => by rw [g1 _ (by omega), Nat.add_assoc]) (f2 k U hU)
    · have := hRS.2.2.2.2.2.1 k hk
      unfold fxM at this ⊢
      rw [ur 3 (by decide), oo 3 (by decide)]
      exact this
    · rw [ur 3 (by decide), oo 3 (by decide)]; exact hbτ k hk
    · have hx2 : ([] : Ens)[e]? = some x := hx
      simp at hx2
    · have hz2 : ([] : List (Nat × (Tr × Tr)))[i]? = some z := hz
      simp at hz2
end TOP17

section MTYPEBY
def nms (ρ : List Tr) (n d : Nat) : List Tr := ρ ++ (List.range d).map (fun j => nm (n + j))
theorem nms_0 (ρ : List Tr) (n : Nat) : nms ρ n 0 = ρ := by simp [nms]
theorem nms_s (ρ : List Tr) (n d : Nat) : nms ρ n (d + 1) = nms ρ n d ++ [nm (n + d)] := by simp [nms, List.range_succ]
theorem nms_len (ρ : List Tr) (n d : Nat) : (nms ρ n d).length = ρ.length + d := by simp [nms]
theorem rp_nms {σ : MS} {V E T Er names : Nat} {ρ : List Tr} (h : rpM σ V E T true (eL ρ) Er) (hr : ∀ k, ρ.length ≤ k → k < 10 → σ.2.1 11 (10 * Er + k) = i32 (names + k - ρ.length)) (hV : 20 ≤ V) (hn : ∀ k, k < 20 → σ.2.2 k = pk 0 k 0 0) : ∀ d, ρ.length + d ≤ 10 → names + d ≤ 10 → rpM σ V E T true (eL (nms ρ names d)) Er := by
  intro d
  induction d with
  | zero => intro _ _; rw [nms_0]; exact h
  | succ d ih =>
    intro h1 h2
    rw [nms_s, eL_snoc]
    refine ⟨by rw [dL_eL, nms_len]; omega, ⟨names + d, ?_, ?_⟩, ih (by omega) (by omega)⟩
    · rw [dL_eL, nms_len, hr _ (by omega) (by omega)]; congr 1; omega
    · exact ⟨by omega, Or.inl ⟨by omega, by omega, by rw [hn _ (by omega)]; congr 1; omega⟩⟩
def psd (σ : MS) (n d : Nat) : MS := setA (setA σ 18 n (i32 (d + 1))) 18 (n + 1) (i32 d)
theorem psd_kp (σ : MS) (n d V E T : Nat) : kp σ (psd σ n d) V E T := kp_tr (kp_setA σ n _ V E T (by decide) (by decide) (by decide)) (kp_setA _ _ _ V E T (by decide) (by decide) (by decide)) (Nat.le_refl _) (Nat.le_refl _) (Nat.le_refl _)
theorem psd_ch (σ : MS) (n d : Nat) : ch FY AY σ (psd σ n d) := ch_tr (ch_setA σ _ (by simp [AY])) (ch_setA _ _ (by simp [AY]))
theorem psd_n (σ : MS) (n d : Nat) : (psd σ n d).2.1 18 n = i32 (d + 1) := by
  unfold psd
  rw [setA_ne _ _ (Or.inr (by omega)), setA_at]
theorem psd_s (σ : MS) (n d : Nat) : (psd σ n d).2.1 18 (n + 1) = i32 d := by
  unfold psd
  rw [setA_at]
theorem psd_lt (σ : MS) {n i : Nat} (d : Nat) (h : i < n) : (psd σ n d).2.1 18 i = σ.2.1 18 i := by
  unfold psd
  rw [setA_ne _ _ (Or.inr (by omega)), setA_ne _ _ (Or.inr (by omega))]
theorem psd_ne (σ : MS) (n d : Nat) {j : Nat} (h : j ≠ 18) : (psd σ n d).2.1 j = σ.2.1 j := by
  unfold psd
  simp only [setA]
  rw [if_neg h, if_neg h]
theorem ty_big {F : Nat} (x2 x4 x5 x6 x7 x8 x9 x10 : Int32) {σ : MS} (h : σ.1 27 = i32 1) : L_typeBy_111 (F + 1) x2 x4 x5 x6 x7 x8 x9 x10 σ = B_typeBy_280 x5 x6 x7 σ := by
  rw [L_typeBy_111]
  split
  · rfl
  · rw [if_neg (nz1 h)]
theorem ty_end {F : Nat} (x2 x4 x5 x6 x7 x8 x9 : Int32) (σ : MS) : L_typeBy_111 (F + 1) x2 x4 x5 x6 x7 x8 x9 (i32 0) σ = B_typeBy_280 x5 x6 x7 σ := by
  rw [L_typeBy_111, if_pos (show i32 0 ≤ 0 from Int32.le_refl _)]
section STEP
variable {F B n p T d c : Nat} {σ : MS} (x2 x4 x5 x6 x8 : Int32)
/-- a round of typeBy as far as the sign is told -/
theorem ty_go (hn : n < 60) (hp : p < 9400) (h27 : σ.1 27 = i32 0) (hT : σ.1 1 = i32 T) (ht : T < 9400) (hB : B ≤ T) (h18 : σ.2.1 18 n = i32 d) (hg : σ.2.1 1 p = i32 c) : L_typeBy_111 (F + 1) x2 x4 x5 x6 (i32 B) x8 (i32 p) (i32 (n + 1)) σ = (if i32 c = 83 then (B_typeBy_173 (B_typeBy_277 (L_typeBy_111 F))) x2 x4 x5 x6 (i32 B) x8 (i32 (p + 1)) (i32 n) (i32 d) (sgn σ T c B) else (if i32 c = 80 then (B_typeBy_173 (B_typeBy_277 (L_typeBy_111 F))) x2 x4 x5 x6 (i32 B) x8 (i32 (p + 1)) (i32 n) (i32 d) (sgn σ T c B) else (f_partsOf (i32 c) (sgn σ T c B)).bind fun q3 => (if q3.1 = 1 then (if (q3.2.1 27) = 0 then (f_works (i32 (p + 1)) (x2 + i32 d) x8 q3.2).bind fun q4 => (f_tells q4.1 (x4 + i32 d) (i32 B) q4.2).bind fun q5 => (B_typeBy_277 (L_typeBy_111 F)) x2 x4 x5 x6 (i32 B) x8 (q4.2.1 24) (i32 n) q5.2 else (B_typeBy_277 (L_typeBy_111 F)) x2 x4 x5 x6 (i32 B) x8 (i32 (p + 1)) (i32 n) q3.2) else (B_typeBy_277 (L_typeBy_111 F)) x2 x4 x5 x6 (i32 B) x8 (i32 (p + 1)) (i32 n) q3.2))) := by
  have h27' : σ.1 27 = 0 := h27
  have hck : f_checks (i32 B) (pt σ T (i32 c)) = some (0, sgn σ T c B) := m_checks0 (by rw [pt_ne _ _ _ (by decide)]; exact h27) (pt_1 _ _ _) (by omega) (by omega)
  rw [L_typeBy_111, if_neg (c_le n (by omega)), if_pos h27', z_pred, if_pos (c_ix (show n < aln 18 from hn) (by omega)), if_pos (c_ix (show p < aln 1 from hp) (by omega)), z_nn (show n < 2147483648 by omega), z_nn (show p < 2147483648 by omega), hg, h18, m_puts _ hT ht, Option.bind_some]
  dsimp only
  rw [hck, Option.bind_some]
  dsimp only
  rw [show i32 p + 1 = i32 (p + 1) from by rw [z1, z_add]]
theorem ty_leaf (hn : n < 60) (hp : p < 9400) (h27 : σ.1 27 = i32 0) (hT : σ.1 1 = i32 T) (ht : T < 9400) (hB : B ≤ T) (h18 : σ.2.1 18 n = i32 d) (hg : σ.2.1 1 p = i32 c) (hc : c < 128) (h83 : c ≠ 83) (h80 : c ≠ 80) (ha : ar (fxM σ) c = 0) : L_typeBy_111 (F + 1) x2 x4 x5 x6 (i32 B) x8 (i32 p) (i32 (n + 1)) σ = L_typeBy_111 F x2 x4 x5 x6 (i32 B) x8 (i32 (p + 1)) (i32 n) (sgn σ T c B) := by
  have hfx : fxM (sgn σ T c B) = fxM σ := kp_fx (sgn_kp σ T c B 0 0)
  rw [ty_go x2 x4 x5 x6 x8 hn hp h27 hT ht hB h18 hg, if_neg (show ¬ (i32 c = 83) from c_eq (b := 83) h83 (by omega) (by omega)), if_neg (show ¬ (i32 c = 80) from c_eq (b := 80) h80 (by omega) (by omega)), m_partsOf c (by omega), hfx, ha, Option.bind_some]
  dsimp only
  rw [if_neg (show ¬ (i32 0 = 1) from by decide), B_typeBy_277]
theorem ty_fam0 (hn : n < 60) (hp : p < 9400) (h27 : σ.1 27 = i32 0) (hT : σ.1 1 = i32 T) (ht : T < 9400) (hB : B ≤ T) (h18 : σ.2.1 18 n = i32 d) (hg : σ.2.1 1 p = i32 c) (hc : 65 ≤ c ∧ c ≤ 67) (ha : ar (fxM σ) c = 1) (hb : ¬ T + 1 - B ≤ 50) : L_typeBy_111 (F + 1) x2 x4 x5 x6 (i32 B) x8 (i32 p) (i32 (n + 1)) σ = L_typeBy_111 F x2 x4 x5 x6 (i32 B) x8 (i32 (p + 1)) (i32 n) (sgn σ T c B) := by
  have hfx : fxM (sgn σ T c B) = fxM σ := kp_fx (sgn_kp σ T c B 0 0)
  rw [ty_go x2 x4 x5 x6 x8 hn hp h27 hT ht hB h18 hg, if_neg (show ¬ (i32 c = 83) from c_eq (b := 83) (by omega) (by omega) (by omega)), if_neg (show ¬ (i32 c = 80) from c_eq (b := 80) (by omega) (by omega) (by omega)), m_partsOf c (by omega), hfx, ha, Option.bind_some]
  dsimp only
  rw [if_pos (show i32 1 = 1 from rfl), if_neg (nz1 (by rw [sgn_27, bg1 hb])), B_typeBy_277]
theorem ty_fam1 (hn : n < 60) (hp : p < 9400) (h27 : σ.1 27 = i32 0) (hT : σ.1 1 = i32 T) (ht : T < 9400) (hB : B ≤ T) (h18 : σ.2.1 18 n = i32 d) (hg : σ.2.1 1 p = i32 c) (hc : 65 ≤ c ∧ c ≤ 67) (ha : ar (fxM σ) c = 1) (hb : T + 1 - B ≤ 50) {base names : Nat} {v e : Int32} {τ υ : MS} (hw : f_works (i32 (p + 1)) (i32 (base + d)) x8 (sgn σ T c B) = some (v, τ)) (he : τ.1 24 = e) (htl : f_tells v (i32 (names + d)) (i32 B) τ = some (0, υ)) : L_typeBy_111 (F + 1) (i32 base) (i32 names) x5 x6 (i32 B) x8 (i32 p) (i32 (n + 1)) σ = L_typeBy_111 F (i32 base) (i32 names) x5 x6 (i32 B) x8 e (i32 n) υ := by
  have hfx : fxM (sgn σ T c B) = fxM σ := kp_fx (sgn_kp σ T c B 0 0)
  have h0 : (sgn σ T c B).1 27 = 0 := by rw [sgn_27, bg0 hb]; rfl
  rw [ty_go _ _ x5 x6 x8 hn hp h27 hT ht hB h18 hg, if_neg (show ¬ (i32 c = 83) from c_eq (b := 83) (by omega) (by omega) (by omega)), if_neg (show ¬ (i32 c = 80) from c_eq (b := 80) (by omega) (by omega) (by omega)), m_partsOf c (by omega), hfx, ha, Option.bind_some]
  dsimp only
  rw [if_pos (show i32 1 = 1 from rfl), if_pos h0, z_add, z_add, hw, Option.bind_some]
  dsimp only
  rw [htl, Option.bind_some]
  dsimp only
  rw [B_typeBy_277, he]
theorem ty_173 {k : Int32 → Int32 → Int32 → Int32 → Int32 → Int32 → Int32 → Int32 → MS → Option (Int32 × MS)} {names : Nat} (x7 x9 : Int32) (hn : n < 58) (hd : d ≤ 10) (hm : names ≤ 10) {b : Nat} (hb : b = 0 ∨ b = 1) (h : σ.1 27 = i32 b) : B_typeBy_173 (B_typeBy_277 k) x2 (i32 names) x5 x6 x7 x8 x9 (i32 n) (i32 d) σ = k x2 (i32 names) x5 x6 x7 x8 x9 (i32 (n + 2)) (psd (setF σ 27 (if b = 0 ∧ names + d < 10 then i32 0 else i32 1)) n d) := by
  have key : ∀ s0, (s0 = i32 0 ∨ s0 = i32 1) → B_typeBy_196 (B_typeBy_277 k) x2 (i32 names) x5 x6 x7 x8 x9 (i32 n) (i32 d) s0 σ = k x2 (i32 names) x5 x6 x7 x8 x9 (i32 (n + 2)) (psd (setF σ 27 s0) n d) := by
    intro s0 hs
    have hz : bzb s0 = true := by rcases hs with rfl | rfl <;> rfl
    unfold B_typeBy_196 B_typeBy_277
    rw [if_pos hz, show i32 n + 1 = i32 (n + 1) from by rw [z1, z_add], show i32 n + 2 = i32 (n + 2) from by rw [z2, z_add], show i32 d + 1 = i32 (d + 1) from by rw [z1, z_add], if_pos (c_ix (show n < aln 18 by show n < 60; omega) (by omega)), if_pos (c_ix (show n + 1 < aln 18 by show n + 1 < 60; omega) (by omega)), z_nn (show n < 2147483648 by omega), z_nn (show n + 1 < 2147483648 by omega)]
    rfl
  unfold B_typeBy_173 B_typeBy_191
  rcases hb with rfl | rfl
  · rw [if_pos (show σ.1 27 = 0 from h), z_add]
    by_cases h2 : names + d < 10
    · rw [if_pos (show i32 (names + d) < 10 from by rw [show (10 : Int32) = i32 10 from rfl, z_lt (by omega) (by omega)]; exact h2), if_pos ⟨rfl, h2⟩]
      exact key _ (Or.inl rfl)
    · rw [if_neg (show ¬ (i32 (names + d) < 10) from by rw [show (10 : Int32) = i32 10 from rfl, z_lt (by omega) (by omega)]; exact h2), if_neg (fun h => h2 h.2)]
      exact key _ (Or.inr rfl)
  · rw [if_neg (nz1 h), if_neg (fun h => absurd h.1 (by decide))]
    exact key _ (Or.inr rfl)
theorem ty_sp {names : Nat} (hn : n < 58) (hd : d ≤ 10) (hm : names ≤ 10) (hp : p < 9400) (h27 : σ.1 27 = i32 0) (hT : σ.1 1 = i32 T) (ht : T < 9400) (hB : B ≤ T) (h18 : σ.2.1 18 n = i32 d) (hg : σ.2.1 1 p = i32 c) (hc : c = 83 ∨ c = 80) : L_typeBy_111 (F + 1) x2 (i32 names) x5 x6 (i32 B) x8 (i32 p) (i32 (n + 1)) σ = L_typeBy_111 F x2 (i32 names) x5 x6 (i32 B) x8 (i32 (p + 1)) (i32 (n + 2)) (psd (setF (sgn σ T c B) 27 (if T + 1 - B ≤ 50 ∧ names + d < 10 then i32 0 else i32 1)) n d) := by
  have e : B_typeBy_173 (B_typeBy_277 (L_typeBy_111 F)) x2 (i32 names) x5 x6 (i32 B) x8 (i32 (p + 1)) (i32 n) (i32 d) (sgn σ T c B) = L_typeBy_111 F x2 (i32 names) x5 x6 (i32 B) x8 (i32 (p + 1)) (i32 (n + 2)) (psd (setF (sgn σ T c B) 27 (if T + 1 - B ≤ 50 ∧ names + d < 10 then i32 0 else i32 1)) n d) := by
    by_cases h50 : T + 1 - B ≤ 50
    · rw [ty_173 x2 x5 x6 x8 _ _ hn hd hm (b := 0) (Or.inl rfl) (by rw [sgn_27, bg0 h50])]
      simp only [h50, true_and]
    · rw [ty_173 x2 x5 x6 x8 _ _ hn hd hm (b := 1) (Or.inr rfl) (by rw [sgn_27, bg1 h50])]
      simp [h50]
  rw [ty_go x2 _ x5 x6 x8 (by omega) hp h27 hT ht hB h18 hg, e]
  rcases hc with rfl | rfl
  · rw [if_pos (show i32 83 = 83 from rfl)]
  · rw [if_neg (show ¬ (i32 80 = 83) from c_eq (a := 80) (b := 83) (by decide) (by decide) (by decide)), if_pos (show i32 80 = 80 from rfl)]
end STEP
end MTYPEBY

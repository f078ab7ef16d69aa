section MTELL
/-- 1 where more than 50 signs are told -/
def bg (x : Nat) : Int32 := if x ≤ 50 then i32 0 else i32 1
theorem bzb0 : bzb (i32 0) = true := rfl
theorem bzb1 : bzb (i32 1) = true := rfl
theorem m_checks0 {σ : MS} {B T : Nat} (h : σ.1 27 = i32 0) (hT : σ.1 1 = i32 T) (hB : B ≤ T) (ht : T < 10000) : f_checks (i32 B) σ = some (0, setF σ 27 (bg (T - B))) := by
  unfold f_checks B_checks_19 B_checks_24
  simp only [h, hT]
  by_cases h1 : T - B ≤ 50
  · simp (disch := omega) only [z50, z0, z1, z_sub, z_eqT, z_leT, if_true, bzb0, bg, h1]
  · simp (disch := omega) only [z50, z0, z1, z_sub, z_eqT, z_leF, if_true, if_false, bzb1, bg, h1]
theorem m_checks1 {σ : MS} (B : Int32) (h : σ.1 27 = i32 1) : f_checks B σ = some (0, σ) := by
  unfold f_checks B_checks_19 B_checks_24
  simp only [h]
  simp (disch := omega) only [z0, z1, z_eqF, if_true, if_false, bzb1]
  rw [setF_id σ h]
theorem pt_1 (σ : MS) (T : Nat) (c : Int32) : (pt σ T c).1 1 = i32 (T + 1) := by simp [pt, setF, upd]
theorem pt_ne (σ : MS) (T : Nat) (c : Int32) {k : Nat} (h : k ≠ 1) : (pt σ T c).1 k = σ.1 k := by
  simp only [pt, setF, upd]
  rw [if_neg h]; rfl
theorem pt_kp (σ : MS) (T : Nat) (c : Int32) (V E : Nat) : kp σ (pt σ T c) V E T := by
  refine ⟨fun _ _ => rfl, fun i _ => ?_, fun i hi => ?_, ?_⟩
  · exact setA_ne σ _ (Or.inl (by decide))
  · exact setA_ne σ _ (Or.inr (by omega))
  · show (setA σ 1 T c).2.1 3 = _
    simp [setA]
theorem pt_ch {F A : List Nat} (σ : MS) (T : Nat) (c : Int32) (h1 : 1 ∈ F) (h2 : 1 ∈ A) : ch F A σ (pt σ T c) := ch_tr (ch_setA σ c h2) (ch_setF _ _ h1)
theorem pt_at (σ : MS) (T : Nat) (c : Int32) : (pt σ T c).2.1 1 T = c := setA_at σ 1 T c
theorem pt_arr (σ : MS) (T : Nat) (c : Int32) {j : Nat} (h : j ≠ 1) : (pt σ T c).2.1 j = σ.2.1 j := by
  show (setA σ 1 T c).2.1 j = _
  simp only [setA]
  rw [if_neg h]
/-- signs told -/
theorem m_sign {σ : MS} {v T s a b l lev c : Nat} (hv : v < 2400) (h : σ.2.2 v = pk s a b l) (ha : a < 65536) (hb : b < 65536) (hl : l < 65536) (hT : σ.1 1 = i32 T) (ht : T < 9400) (h27 : σ.1 27 = i32 0) (hs : (s = 0 ∧ a < 10 ∧ c = 48 + a) ∨ (s = 1 ∧ c = a) ∨ (s = 2 ∧ c = 46) ∨ (s = 3 ∧ c = 60) ∨ (s = 4 ∧ c = 62) ∨ (s = 5 ∧ c = 44) ∨ (s = 6 ∧ c = 42)) : f_tellsSign (i32 v) (i32 lev) σ = some (0, pt σ T (i32 c)) := by
  have hs16 : s < 16 := by omega
  have e1 := m_sortOf hv h hs16 ha hb hl
  have e2 := m_aOf hv h hs16 ha hb hl
  unfold f_tellsSign B_tellsSign_174 B_tellsSign_71
  rw [e1, Option.bind_some]
  rcases hs with ⟨rfl, h1, rfl⟩ | ⟨rfl, rfl⟩ | ⟨rfl, rfl⟩ | ⟨rfl, rfl⟩ | ⟨rfl, rfl⟩ | ⟨rfl, rfl⟩ | ⟨rfl, rfl⟩
  · have e3 : setF σ 27 (i32 0) = σ := setF_id σ h27
    simp (disch := omega) only [h27, z0, z9, z48, z_eqT, z_leT, if_true, e2, Option.bind_some, bzb0, e3, z_add, m_puts _ hT ht]
  · simp (disch := omega) only [z0, z1, z_eqT, z_eqF, if_true, if_false, e2, Option.bind_some, m_puts _ hT ht]
  · simp (disch := omega) only [z0, z1, z2, z46, z_eqT, z_eqF, if_true, if_false, Option.bind_some, m_puts _ hT ht]
  · simp (disch := omega) only [z0, z1, z2, z3, z60, z_eqT, z_eqF, if_true, if_false, Option.bind_some, m_puts _ hT ht]
  · simp (disch := omega) only [z0, z1, z2, z3, z4, z62, z_eqT, z_eqF, if_true, if_false, Option.bind_some, m_puts _ hT ht]
  · simp (disch := omega) only [z0, z1, z2, z3, z4, z5, z44, z_eqT, z_eqF, if_true, if_false, Option.bind_some, m_puts _ hT ht]
  · simp (disch := omega) only [z0, z1, z2, z3, z4, z5, z6, z42, z_eqT, z_eqF, if_true, if_false, Option.bind_some, m_puts _ hT ht]
theorem m_signF {σ : MS} {v T a b l lev : Nat} (hv : v < 2400) (h : σ.2.2 v = pk 7 a b l) (ha : a < 65536) (hb : b < 65536) (hl : l < 65536) (hT : σ.1 1 = i32 T) (ht : T < 9400) (h27 : σ.1 27 = i32 0) (hlev : lev < 100) : f_tellsSign (i32 v) (i32 lev) σ = some (0, pt (setF σ 27 (if lev < 10 then i32 0 else i32 1)) T (i32 92)) := by
  have e1 := m_sortOf hv h (by decide) ha hb hl
  unfold f_tellsSign B_tellsSign_174 B_tellsSign_165 B_tellsSign_160
  rw [e1, Option.bind_some]
  have hT' : ∀ x, (setF σ 27 x).1 1 = i32 T := fun x => hT
  by_cases hl : lev < 10
  · simp (disch := omega) only [h27, z0, z1, z2, z3, z4, z5, z6, z10, z92, z_eqT, z_eqF, z_ltT, if_true, if_false, Option.bind_some, bzb0, m_puts _ (hT' _) ht, hl]
  · simp (disch := omega) only [h27, z0, z1, z2, z3, z4, z5, z6, z10, z92, z_eqT, z_eqF, z_ltF, if_true, if_false, Option.bind_some, bzb1, m_puts _ (hT' _) ht, hl]
theorem c_le (n : Nat) (h : n < 100000) : ¬ (i32 (n + 1) ≤ 0) := by
  rw [show (0 : Int32) = i32 0 from rfl, z_le (by omega) (by omega)]; omega
theorem c_eq {a b : Nat} (h : a ≠ b) (ha : a < 2147483648) (hb : b < 2147483648) : ¬ (i32 a = i32 b) := by rw [z_eq ha hb]; exact h
theorem c_ix {a n : Nat} (h : a < n) (ha : a < 2147483648) : ix (i32 a) n = true := by rw [z_ix ha]; exact decide_eq_true h
theorem tells_big {F : Nat} (B n : Int32) {σ : MS} (h : σ.1 27 = i32 1) : L_tells_17 (F + 1) B n σ = some (0, σ) := by
  rw [L_tells_17]
  unfold B_tells_201
  split
  · rfl
  · have : ¬ (σ.1 27 = 0) := by rw [h]; exact c_eq (b := 0) (by decide) (by decide) (by decide)
    rw [if_neg this]
theorem tells_end {F : Nat} (B : Int32) (σ : MS) : L_tells_17 (F + 1) B (i32 0) σ = some (0, σ) := by
  rw [L_tells_17]
  unfold B_tells_201
  rw [if_pos (show i32 0 ≤ 0 from Int32.le_refl _)]
section STEP
variable {F B n v T s a b l lev c : Nat} {σ : MS}
/-- a round of the loop as far as the sign is told -/
theorem tells_go (hn : n < 60) (h27 : σ.1 27 = i32 0) (h1 : σ.2.1 16 n = i32 v) (h2 : σ.2.1 17 n = i32 lev) (hv : v < 2400) (h : σ.2.2 v = pk s a b l) (hs16 : s < 16) (ha : a < 65536) (hb : b < 65536) (hl : l < 65536) {τ : MS} (hsg : f_tellsSign (i32 v) (i32 lev) σ = some (0, τ)) (hτ : τ.2.2 = σ.2.2) {υ : MS} (hck : f_checks (i32 B) τ = some (0, υ)) (hυ : υ.2.2 = τ.2.2) : L_tells_17 (F + 1) (i32 B) (i32 (n + 1)) σ = (if (υ.1 27) = 0 then (if i32 s = 2 then (B_tells_90 (B_tells_115 (L_tells_17 F))) (i32 B) (i32 n) (i32 v) (i32 lev) (i32 s) υ else (if i32 s = 5 then (B_tells_90 (B_tells_115 (L_tells_17 F))) (i32 B) (i32 n) (i32 v) (i32 lev) (i32 s) υ else (B_tells_115 (L_tells_17 F)) (i32 B) (i32 n) (i32 v) (i32 lev) (i32 s) υ)) else (B_tells_115 (L_tells_17 F)) (i32 B) (i32 n) (i32 v) (i32 lev) (i32 s) υ) := by
  have e1 := m_sortOf hv (show υ.2.2 v = pk s a b l by rw [hυ, hτ]; exact h) hs16 ha hb hl
  have h27' : σ.1 27 = 0 := h27
  rw [L_tells_17, if_neg (c_le n (by omega)), if_pos h27', z_pred, if_pos (c_ix (show n < aln 16 from hn) (by omega)), if_pos (c_ix (show n < aln 17 from hn) (by omega)), z_nn (by omega), h1, h2, hsg, Option.bind_some]
  dsimp only
  rw [hck, Option.bind_some]
  dsimp only
  rw [e1, Option.bind_some]
theorem nz1 {σ : MS} (h : σ.1 27 = i32 1) : ¬ (σ.1 27 = 0) := by rw [h]; exact c_eq (b := 0) (by decide) (by decide) (by decide)
theorem tells_over (hn : n < 60) (h27 : σ.1 27 = i32 0) (h1 : σ.2.1 16 n = i32 v) (h2 : σ.2.1 17 n = i32 lev) (hv : v < 2400) (h : σ.2.2 v = pk s a b l) (hs16 : s < 16) (ha : a < 65536) (hb : b < 65536) (hl : l < 65536) {τ : MS} (hsg : f_tellsSign (i32 v) (i32 lev) σ = some (0, τ)) (hτ : τ.2.2 = σ.2.2) {υ : MS} (hck : f_checks (i32 B) τ = some (0, υ)) (hυ : υ.2.2 = τ.2.2) (hb1 : υ.1 27 = i32 1) : L_tells_17 (F + 1) (i32 B) (i32 (n + 1)) σ = L_tells_17 F (i32 B) (i32 n) υ := by
  rw [tells_go hn h27 h1 h2 hv h hs16 ha hb hl hsg hτ hck hυ, if_neg (nz1 hb1), B_tells_115, if_neg (nz1 hb1), B_tells_198]
theorem tells_leaf (hn : n < 60) (h27 : σ.1 27 = i32 0) (h1 : σ.2.1 16 n = i32 v) (h2 : σ.2.1 17 n = i32 lev) (hv : v < 2400) (h : σ.2.2 v = pk s a b l) (hs : s = 0 ∨ s = 1 ∨ s = 6) (ha : a < 65536) (hb : b < 65536) (hl : l < 65536) {τ : MS} (hsg : f_tellsSign (i32 v) (i32 lev) σ = some (0, τ)) (hτ : τ.2.2 = σ.2.2) {υ : MS} (hck : f_checks (i32 B) τ = some (0, υ)) (hυ : υ.2.2 = τ.2.2) (hb0 : υ.1 27 = i32 0) : L_tells_17 (F + 1) (i32 B) (i32 (n + 1)) σ = L_tells_17 F (i32 B) (i32 n) υ := by
  have hb0' : υ.1 27 = 0 := hb0
  rw [tells_go hn h27 h1 h2 hv h (by omega) ha hb hl hsg hτ hck hυ, if_pos hb0']
  rw [if_neg (show ¬ (i32 s = 2) from c_eq (a := s) (b := 2) (by omega) (by omega) (by omega)), if_neg (show ¬ (i32 s = 5) from c_eq (a := s) (b := 5) (by omega) (by omega) (by omega)), B_tells_115, if_pos hb0', if_neg (show ¬ (i32 s = 7) from c_eq (a := s) (b := 7) (by omega) (by omega) (by omega))]
  by_cases h9 : s < 2
  · rw [if_pos (show i32 s < 2 from by rw [show (2 : Int32) = i32 2 from rfl, z_lt (by omega) (by omega)]; exact h9), B_tells_198]
  · rw [if_neg (show ¬ (i32 s < 2) from by rw [show (2 : Int32) = i32 2 from rfl, z_lt (by omega) (by omega)]; exact h9), if_pos (show 5 < i32 s from by rw [show (5 : Int32) = i32 5 from rfl, z_lt (by omega) (by omega)]; omega), B_tells_198]
/-- one part waits -/
def psh (σ : MS) (n v lev : Nat) : MS := setA (setA σ 16 n (i32 v)) 17 n (i32 lev)
theorem psh_22 (σ : MS) (n v lev : Nat) : (psh σ n v lev).2.2 = σ.2.2 := rfl
theorem psh_1 (σ : MS) (n v lev : Nat) : (psh σ n v lev).1 = σ.1 := rfl
/-- the first part, or the function's body, is put to wait -/
theorem tells_psh (hn : n < 59) {υ ω : MS} {s2 : Int32} (w lev' : Nat) (hl : (s2 = 7 ∧ lev' = lev + 1) ∨ (s2 ≠ 7 ∧ lev' = lev)) (k : Int32 → Int32 → MS → Option (Int32 × MS)) : (B_tells_171 (B_tells_198 k)) (i32 B) (i32 n) (i32 lev) s2 (i32 w) (i32 n) ω = k (i32 B) (i32 (n + 1)) (psh ω n w lev') := by
  unfold B_tells_171 B_tells_194 B_tells_198
  rw [if_pos (c_ix (show n < aln 16 by show n < 60; omega) (by omega)), z_nn (by omega), show i32 n + 1 = i32 (n + 1) from by rw [z1, z_add], show i32 lev + 1 = i32 (lev + 1) from by rw [z1, z_add]]
  rcases hl with ⟨h, rfl⟩ | ⟨h, rfl⟩
  · rw [if_pos h, if_pos (c_ix (show n < aln 17 by show n < 60; omega) (by omega))]; rfl
  · rw [if_neg h, if_pos (c_ix (show n < aln 17 by show n < 60; omega) (by omega))]; rfl
theorem tells_un (hn : n < 58) (h27 : σ.1 27 = i32 0) (h1 : σ.2.1 16 n = i32 v) (h2 : σ.2.1 17 n = i32 lev) (hv : v < 2400) (h : σ.2.2 v = pk s a b l) (hs : s = 3 ∨ s = 4) (ha : a < 65536) (hb : b < 65536) (hl : l < 65536) {τ : MS} (hsg : f_tellsSign (i32 v) (i32 lev) σ = some (0, τ)) (hτ : τ.2.2 = σ.2.2) {υ : MS} (hck : f_checks (i32 B) τ = some (0, υ)) (hυ : υ.2.2 = τ.2.2) (hb0 : υ.1 27 = i32 0) : L_tells_17 (F + 1) (i32 B) (i32 (n + 1)) σ = L_tells_17 F (i32 B) (i32 (n + 1)) (psh υ n a lev) := by
  have e0 : υ.2.2 v = pk s a b l := by rw [hυ, hτ]; exact h
  have e2 := m_aOf hv e0 (by omega) ha hb hl
  have hb0' : υ.1 27 = 0 := hb0
  have h7 : ¬ (i32 s = 7) := c_eq (a := s) (b := 7) (by omega) (by omega) (by omega)
  rw [tells_go (by omega) h27 h1 h2 hv h (by omega) ha hb hl hsg hτ hck hυ, if_pos hb0']
  rw [if_neg (show ¬ (i32 s = 2) from c_eq (a := s) (b := 2) (by omega) (by omega) (by omega)), if_neg (show ¬ (i32 s = 5) from c_eq (a := s) (b := 5) (by omega) (by omega) (by omega)), B_tells_115, if_pos hb0', if_neg h7]
  rw [if_neg (show ¬ (i32 s < 2) from by rw [show (2 : Int32) = i32 2 from rfl, z_lt (by omega) (by omega)]; omega), if_neg (show ¬ (5 < i32 s) from by rw [show (5 : Int32) = i32 5 from rfl, z_lt (by omega) (by omega)]; omega), B_tells_141, if_neg h7, e2, Option.bind_some]
  exact tells_psh (υ := υ) (by omega) a lev (Or.inr ⟨h7, rfl⟩) _
theorem tells_bin (hn : n < 58) (h27 : σ.1 27 = i32 0) (h1 : σ.2.1 16 n = i32 v) (h2 : σ.2.1 17 n = i32 lev) (hv : v < 2400) (h : σ.2.2 v = pk s a b l) (hs : s = 2 ∨ s = 5) (ha : a < 65536) (hb : b < 65536) (hl : l < 65536) {τ : MS} (hsg : f_tellsSign (i32 v) (i32 lev) σ = some (0, τ)) (hτ : τ.2.2 = σ.2.2) {υ : MS} (hck : f_checks (i32 B) τ = some (0, υ)) (hυ : υ.2.2 = τ.2.2) (hb0 : υ.1 27 = i32 0) : L_tells_17 (F + 1) (i32 B) (i32 (n + 1)) σ = L_tells_17 F (i32 B) (i32 (n + 2)) (psh (psh υ n b lev) (n + 1) a lev) := by
  have e0 : υ.2.2 v = pk s a b l := by rw [hυ, hτ]; exact h
  have e2 := m_aOf (σ := psh υ n b lev) hv e0 (by omega) ha hb hl
  have e3 := m_bOf hv e0 (by omega) ha hb hl
  have hb0' : υ.1 27 = 0 := hb0
  have hb0'' : (psh υ n b lev).1 27 = 0 := hb0
  have h7 : ¬ (i32 s = 7) := c_eq (a := s) (b := 7) (by omega) (by omega) (by omega)
  have e9 : B_tells_90 (B_tells_115 (L_tells_17 F)) (i32 B) (i32 n) (i32 v) (i32 lev) (i32 s) υ = L_tells_17 F (i32 B) (i32 (n + 2)) (psh (psh υ n b lev) (n + 1) a lev) := by
    rw [B_tells_90, e3, Option.bind_some, if_pos (c_ix (show n < aln 16 by show n < 60; omega) (by omega)), if_pos (c_ix (show n < aln 17 by show n < 60; omega) (by omega)), z_nn (by omega), show i32 n + 1 = i32 (n + 1) from by rw [z1, z_add]]
    dsimp only
    rw [show setA (setA υ 16 n (i32 b)) 17 n (i32 lev) = psh υ n b lev from rfl, B_tells_115, if_pos hb0'', if_neg h7]
    rw [if_neg (show ¬ (i32 s < 2) from by rw [show (2 : Int32) = i32 2 from rfl, z_lt (by omega) (by omega)]; omega), if_neg (show ¬ (5 < i32 s) from by rw [show (5 : Int32) = i32 5 from rfl, z_lt (by omega) (by omega)]; omega), B_tells_141, if_neg h7, e2, Option.bind_some]
    exact tells_psh (υ := υ) (by omega) a lev (Or.inr ⟨h7, rfl⟩) _
  rw [tells_go (by omega) h27 h1 h2 hv h (by omega) ha hb hl hsg hτ hck hυ, if_pos hb0', e9]
  rcases hs with rfl | rfl
  · rw [if_pos (show i32 2 = 2 from rfl)]
  · rw [if_neg (show ¬ (i32 5 = 2) from c_eq (a := 5) (b := 2) (by omega) (by omega) (by omega)), if_pos (show i32 5 = 5 from rfl)]
theorem tells_fun (hn : n < 58) (h27 : σ.1 27 = i32 0) (h1 : σ.2.1 16 n = i32 v) (h2 : σ.2.1 17 n = i32 lev) (hv : v < 2400) (h : σ.2.2 v = pk 7 a b l) (ha : a < 65536) (hb : b < 65536) (hl : l < 65536) (hlev : lev < 100) {τ : MS} (hsg : f_tellsSign (i32 v) (i32 lev) σ = some (0, τ)) (hτ : τ.2.2 = σ.2.2) {υ : MS} (hck : f_checks (i32 B) τ = some (0, υ)) (hυ : υ.2.2 = τ.2.2) (hb0 : υ.1 27 = i32 0) {w : Nat} {ω : MS} (hg : f_gives (i32 v) (i32 lev) υ = some (i32 w, ω)) : L_tells_17 (F + 1) (i32 B) (i32 (n + 1)) σ = L_tells_17 F (i32 B) (i32 (n + 1)) (psh ω n w (lev + 1)) := by
  have hb0' : υ.1 27 = 0 := hb0
  rw [tells_go (by omega) h27 h1 h2 hv h (by decide) ha hb hl hsg hτ hck hυ, if_pos hb0']
  rw [if_neg (show ¬ (i32 7 = 2) from c_eq (a := 7) (b := 2) (by omega) (by omega) (by omega)), if_neg (show ¬ (i32 7 = 5) from c_eq (a := 7) (b := 5) (by omega) (by omega) (by omega)), B_tells_115, if_pos hb0', if_pos (show i32 7 = 7 from rfl), B_tells_141, if_pos (show i32 7 = 7 from rfl), hg, Option.bind_some]
  exact tells_psh (υ := υ) (by omega) w (lev + 1) (Or.inl ⟨rfl, rfl⟩) _
end STEP
end MTELL

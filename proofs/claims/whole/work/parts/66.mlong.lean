section MLONG
theorem lo_big {F : Nat} (x4 x5 x6 x7 x8 x9 x10 x11 : Int32) {σ : MS} (h : σ.1 27 = i32 1) : L_longBy_38 (F + 1) x4 x5 x6 x7 x8 x9 x10 x11 σ = B_longBy_290 x4 x5 x6 σ := by
  rw [L_longBy_38]
  split
  · rw [if_neg (nz1 h)]
  · rfl
theorem lo_end {F : Nat} (x4 x5 x6 x7 x8 x9 x10 : Int32) (σ : MS) : L_longBy_38 (F + 1) x4 x5 x6 x7 x8 x9 x10 (i32 1) σ = B_longBy_290 x4 x5 x6 σ := by
  rw [L_longBy_38, if_neg (show ¬ (i32 1 = 0) from by decide)]
/-- behind a part of the type: the next that waits, or the end -/
def lnx (F : Nat) (x4 x5 x6 p v n : Int32) (σ : MS) : Nat → Option (Int32 × MS)
  | 0 => L_longBy_38 F x4 x5 x6 p v n (i32 0) (i32 1) σ
  | m + 1 => L_longBy_38 F x4 x5 x6 p (σ.2.1 21 m) (σ.2.1 22 m) (i32 m) (i32 0) σ
section STEP
variable {F p v n m V T B c : Nat} {σ : MS} (x4 x5 : Int32)
theorem lo_208 {k : Int32 → Int32 → Int32 → Int32 → Int32 → Int32 → Int32 → Int32 → MS → Option (Int32 × MS)} (x6 x8 x9 : Int32) {t : Tr} (hm : m < 60) (ht : pr (fxM σ) t) (hf : fm (σ.2.1 1) t p) (hl : p + ln t ≤ 9400) : (B_longBy_208 (B_longBy_281 k)) x4 x5 x6 (i32 p) x8 x9 (i32 m) σ = (match m with | 0 => B_longBy_281 k x4 x5 x6 (i32 (p + ln t)) x8 x9 (i32 0) (i32 1) σ | m' + 1 => B_longBy_281 k x4 x5 x6 (i32 (p + ln t)) (σ.2.1 21 m') (σ.2.1 22 m') (i32 m') (i32 0) σ) := by
  unfold B_longBy_208
  rw [m_behind ht hf hl, Option.bind_some]
  dsimp only
  cases m with
  | zero =>
    rw [if_pos (show i32 0 = 0 from rfl)]
    unfold B_longBy_226 B_longBy_240 B_longBy_260 B_longBy_279
    rw [if_neg (show ¬ ((1 : Int32) = 0) from by decide), if_neg (show ¬ ((1 : Int32) = 0) from by decide), if_neg (show ¬ ((1 : Int32) = 0) from by decide)]
    rfl
  | succ m' =>
    rw [if_neg (show ¬ (i32 (m' + 1) = 0) from c_eq (b := 0) (by omega) (by omega) (by omega))]
    unfold B_longBy_226 B_longBy_240 B_longBy_260 B_longBy_279
    rw [if_pos (show (0 : Int32) = 0 from rfl), if_pos (show (0 : Int32) = 0 from rfl), z_sub1, if_pos (c_ix (show m' < aln 21 by show m' < 60; omega) (by omega)), if_pos (show (0 : Int32) = 0 from rfl), if_pos (c_ix (show m' < aln 22 by show m' < 60; omega) (by omega)), z_nn (by omega)]
    rfl
theorem lo_S (hp : p < 9400) (hm : m < 60) (h27 : σ.1 27 = i32 0) (hT : σ.1 1 = i32 T) (ht : T < 9400) (hB : B ≤ T) (hg : σ.2.1 1 p = i32 83) (hV : σ.1 19 = i32 V) (hv : V + 1 < 2400) (hv2 : v < 2400) : ∃ τ, L_longBy_38 (F + 1) x4 x5 (i32 B) (i32 p) (i32 v) (i32 n) (i32 m) (i32 0) σ = L_longBy_38 F x4 x5 (i32 B) (i32 (p + 1)) (i32 (V + 1)) (i32 n) (i32 (m + 1)) (i32 0) τ ∧ τ.1 27 = bg (T + 1 - B) ∧ τ.1 1 = i32 (T + 1) ∧ τ.1 19 = i32 (V + 2) ∧ τ.1 21 = σ.1 21 ∧ τ.2.2 V = pk 4 v 0 0 ∧ τ.2.2 (V + 1) = pk 3 v 0 0 ∧ τ.2.1 1 T = i32 44 ∧ τ.2.1 21 m = i32 V ∧ τ.2.1 22 m = i32 n ∧ (∀ i, i < m → τ.2.1 21 i = σ.2.1 21 i ∧ τ.2.1 22 i = σ.2.1 22 i) ∧ (∀ E, kp σ τ V E T) ∧ ch [1, 19, 27] [1, 21, 22] σ τ := by
  have e1 : f_puts 44 σ = some (0, pt σ T (i32 44)) := m_puts _ hT ht
  have e2 : f_lays 4 (i32 v) 0 0 (pt σ T (i32 44)) = some (i32 V, lay (pt σ T (i32 44)) V (pk 4 v 0 0)) := m_lays (s := 4) (a := v) (b := 0) (l := 0) (by rw [pt_ne _ _ _ (by decide)]; exact hV) (by omega) (by omega) (by omega) (by omega) (by omega)
  generalize hσ1 : setA (setA (lay (pt σ T (i32 44)) V (pk 4 v 0 0)) 21 m (i32 V)) 22 m (i32 n) = σ1
  have f19 : σ1.1 19 = i32 (V + 1) := by rw [← hσ1]; exact lay_19 (pt σ T (i32 44)) V (pk 4 v 0 0)
  have e3 : f_lays 3 (i32 v) 0 0 σ1 = some (i32 (V + 1), lay σ1 (V + 1) (pk 3 v 0 0)) := m_lays (s := 3) (a := v) (b := 0) (l := 0) f19 hv (by omega) (by omega) (by omega) (by omega)
  have g1 : (lay σ1 (V + 1) (pk 3 v 0 0)).1 1 = i32 (T + 1) := by
    rw [(lay_ch (F := [19]) [] σ1 (V + 1) _ (by simp)).1 1 (by simp), ← hσ1]
    show (lay (pt σ T (i32 44)) V (pk 4 v 0 0)).1 1 = _
    rw [(lay_ch (F := [19]) [] (pt σ T (i32 44)) V _ (by simp)).1 1 (by simp)]
    exact pt_1 σ T _
  have g27 : (lay σ1 (V + 1) (pk 3 v 0 0)).1 27 = i32 0 := by
    rw [(lay_ch (F := [19]) [] σ1 (V + 1) _ (by simp)).1 27 (by simp), ← hσ1]
    show (lay (pt σ T (i32 44)) V (pk 4 v 0 0)).1 27 = _
    rw [(lay_ch (F := [19]) [] (pt σ T (i32 44)) V _ (by simp)).1 27 (by simp), pt_ne _ _ _ (by decide)]
    exact h27
  have e4 := m_checks0 (B := B) g27 g1 (by omega) (by omega)
  have kσ1 : ∀ E, kp σ σ1 V E T := fun E => by
    rw [← hσ1]
    exact kp_tr (pt_kp σ T _ V E) (kp_tr (lay_kp _ V _ E T) (kp_tr (kp_setA _ m _ V E T (by decide) (by decide) (by decide)) (kp_setA _ m _ V E T (by decide) (by decide) (by decide)) (Nat.le_refl _) (Nat.le_refl _) (Nat.le_refl _)) (Nat.le_refl _) (Nat.le_refl _) (Nat.le_refl _)) (Nat.le_refl _) (Nat.le_refl _) (Nat.le_refl _)
  have cσ1 : ch [1, 19, 27] [1, 21, 22] σ σ1 := by
    rw [← hσ1]
    exact ch_tr (pt_ch σ T _ (by simp) (by simp)) (ch_tr (lay_ch _ _ _ _ (by simp)) (ch_tr (ch_setA _ _ (by simp)) (ch_setA _ _ (by simp))))
  refine ⟨setF (lay σ1 (V + 1) (pk 3 v 0 0)) 27 (bg (T + 1 - B)), ?_, by simp [setF, upd], ?_, ?_, ?_, ?_, lay_V σ1 (V + 1) _, ?_, ?_, ?_, fun i hi => ?_, fun E => kp_tr (kσ1 E) (kp_tr (kp_le (lay_kp σ1 (V + 1) _ E T) (by omega) (Nat.le_refl _) (Nat.le_refl _)) (kp_setF _ 27 _ V E T) (Nat.le_refl _) (Nat.le_refl _) (Nat.le_refl _)) (Nat.le_refl _) (Nat.le_refl _) (Nat.le_refl _), ch_tr cσ1 (ch_tr (lay_ch _ _ _ _ (by simp)) (ch_setF _ _ (by simp)))⟩
  · rw [L_longBy_38, if_pos (show i32 0 = 0 from rfl), if_pos (show σ.1 27 = 0 from h27), if_pos (c_ix (show p < aln 1 from hp) (by omega)), z_nn (show p < 2147483648 by omega), hg, if_pos (show i32 83 = 83 from rfl), e1, Option.bind_some]
    dsimp only
    rw [e2, Option.bind_some]
    dsimp only
    rw [if_pos (c_ix (show m < aln 21 from hm) (by omega)), if_pos (c_ix (show m < aln 22 from hm) (by omega)), z_nn (show m < 2147483648 by omega), hσ1, e3, Option.bind_some]
    dsimp only
    rw [B_longBy_281, e4, Option.bind_some]
    dsimp only
    rw [show i32 p + 1 = i32 (p + 1) from by rw [z1, z_add], show i32 m + 1 = i32 (m + 1) from by rw [z1, z_add]]
  · simp only [setF, upd]; rw [if_neg (by decide)]; exact g1
  · simp only [setF, upd]; rw [if_neg (by decide)]; exact lay_19 σ1 (V + 1) _
  · simp only [setF, upd]; rw [if_neg (by decide), (lay_ch (F := [19]) [] σ1 (V + 1) _ (by simp)).1 21 (by simp)]; exact cσ1.1 21 (by simp)
  · show (lay σ1 (V + 1) (pk 3 v 0 0)).2.2 V = _
    rw [(lay_kp σ1 (V + 1) (pk 3 v 0 0) 0 0).1 V (by omega), ← hσ1]
    exact lay_V (pt σ T (i32 44)) V (pk 4 v 0 0)
  · show σ1.2.1 1 T = _
    rw [← hσ1, setA_ne _ _ (Or.inl (by decide)), setA_ne _ _ (Or.inl (by decide))]
    exact pt_at σ T _
  · show σ1.2.1 21 m = _
    rw [← hσ1, setA_ne _ _ (Or.inl (by decide)), setA_at]
  · show σ1.2.1 22 m = _
    rw [← hσ1, setA_at]
  · show σ1.2.1 21 i = _ ∧ σ1.2.1 22 i = _
    rw [← hσ1, setA_ne _ _ (Or.inl (by decide)), setA_ne _ _ (Or.inr (by omega)), setA_ne _ _ (Or.inr (by omega)), setA_ne _ _ (Or.inl (by decide))]
    show (pt σ T (i32 44)).2.1 21 i = _ ∧ (pt σ T (i32 44)).2.1 22 i = _
    rw [pt_arr _ _ _ (by decide), pt_arr _ _ _ (by decide)]
    exact ⟨rfl, rfl⟩
theorem lo_1 (hp : p < 9400) (hm : m < 60) (h27 : σ.1 27 = i32 0) (hT : σ.1 1 = i32 T) (ht : T < 9400) (hB : B ≤ T) (hpT : p + 1 ≤ T) (hg : σ.2.1 1 p = i32 49) (ha : pr (fxM σ) (.leaf 49)) : L_longBy_38 (F + 1) x4 x5 (i32 B) (i32 p) (i32 v) (i32 n) (i32 m) (i32 0) σ = lnx F x4 x5 (i32 B) (i32 (p + 1)) (i32 v) (i32 n) (sgn σ T 42 B) m := by
  have e1 : f_puts 42 σ = some (0, pt σ T (i32 42)) := m_puts _ hT ht
  have e4 : f_checks (i32 B) (pt σ T (i32 42)) = some (0, sgn σ T 42 B) := m_checks0 (by rw [pt_ne _ _ _ (by decide)]; exact h27) (pt_1 _ _ _) (by omega) (by omega)
  have kp0 := pt_kp σ T (i32 42) 0 0
  rw [L_longBy_38, if_pos (show i32 0 = 0 from rfl), if_pos (show σ.1 27 = 0 from h27), if_pos (c_ix (show p < aln 1 from hp) (by omega)), z_nn (show p < 2147483648 by omega), hg, if_neg (show ¬ (i32 49 = 83) from by decide), if_neg (show ¬ (i32 49 = 80) from by decide), if_pos (show i32 49 = 49 from rfl), e1, Option.bind_some]
  dsimp only
  rw [lo_208 x4 x5 (i32 B) (i32 v) (i32 n) (t := .leaf 49) hm (by rw [kp_fx kp0]; exact ha) (kp_fm kp0 (fun _ => hg) (by rw [ln_leaf (by decide)]; omega)) (by rw [ln_leaf (by decide)]; omega), ln_leaf (show 49 ≠ 0 by decide)]
  cases m with
  | zero =>
    dsimp only
    rw [B_longBy_281, e4, Option.bind_some]
    rfl
  | succ m' =>
    dsimp only
    rw [B_longBy_281, e4, Option.bind_some]
    dsimp only
    rw [lnx, sgn_arr _ _ _ _ (by decide), sgn_arr _ _ _ _ (by decide), pt_arr _ _ _ (by decide), pt_arr _ _ _ (by decide)]
theorem lo_f (hp : p < 9400) (hm : m < 60) (h27 : σ.1 27 = i32 0) (hg : σ.2.1 1 p = i32 c) (hc : c < 128) (h83 : c ≠ 83) (h80 : c ≠ 80) (h49 : c ≠ 49) {τ : MS} (htl : f_tells (i32 v) (i32 n) (i32 B) σ = some (0, τ)) {t : Tr} (ht : pr (fxM τ) t) (hf : fm (τ.2.1 1) t p) (hl : p + ln t ≤ 9400) {υ : MS} (hck : f_checks (i32 B) τ = some (0, υ)) (ha : υ.2.1 21 = τ.2.1 21 ∧ υ.2.1 22 = τ.2.1 22) : L_longBy_38 (F + 1) x4 x5 (i32 B) (i32 p) (i32 v) (i32 n) (i32 m) (i32 0) σ = lnx F x4 x5 (i32 B) (i32 (p + ln t)) (i32 v) (i32 n) υ m := by
  rw [L_longBy_38, if_pos (show i32 0 = 0 from rfl), if_pos (show σ.1 27 = 0 from h27), if_pos (c_ix (show p < aln 1 from hp) (by omega)), z_nn (show p < 2147483648 by omega), hg, if_neg (show ¬ (i32 c = 83) from c_eq (b := 83) h83 (by omega) (by omega)), if_neg (show ¬ (i32 c = 80) from c_eq (b := 80) h80 (by omega) (by omega)), if_neg (show ¬ (i32 c = 49) from c_eq (b := 49) h49 (by omega) (by omega)), htl, Option.bind_some]
  dsimp only
  rw [lo_208 x4 x5 (i32 B) (i32 v) (i32 n) (t := t) hm ht hf hl]
  cases m with
  | zero =>
    dsimp only
    rw [B_longBy_281, hck, Option.bind_some]
    rfl
  | succ m' =>
    dsimp only
    rw [B_longBy_281, hck, Option.bind_some]
    dsimp only
    rw [lnx, ha.1, ha.2]
theorem lo_P (hp : p < 9400) (h27 : σ.1 27 = i32 0) (hT : σ.1 1 = i32 T) (ht : T < 9400) (hg : σ.2.1 1 p = i32 80) (hn : n ≤ 10) {q V2 : Nat} {τ : MS} (hs : f_spread (i32 n) (i32 (p + 1)) (pt (setF σ 27 (if n < 10 then i32 0 else i32 1)) T (i32 92)) = some (i32 q, τ)) (hV2 : τ.1 19 = i32 V2) (h2 : V2 < 2400) (hv : v < 2400) (hq : q < 2400) {t : Tr} (hpr : pr (fxM τ) t) (hf : fm (τ.2.1 1) t (p + 1)) (hl : p + 1 + ln t ≤ 9400) {υ : MS} (hck : f_checks (i32 B) (lay τ V2 (pk 2 v q 0)) = some (0, υ)) : L_longBy_38 (F + 1) x4 x5 (i32 B) (i32 p) (i32 v) (i32 n) (i32 m) (i32 0) σ = L_longBy_38 F x4 x5 (i32 B) (i32 (p + 1 + ln t)) (i32 V2) (i32 (n + 1)) (i32 m) (i32 0) υ := by
  have kl := lay_kp τ V2 (pk 2 v q 0) 0 9400
  have eb := m_behind (σ := lay τ V2 (pk 2 v q 0)) (t := t) (p := p + 1) (by rw [kp_fx kl]; exact hpr) (kp_fm kl hf hl) hl
  have key : ∀ s0, (s0 = if n < 10 then i32 0 else i32 1) → B_longBy_137 (B_longBy_281 (L_longBy_38 F)) x4 x5 (i32 B) (i32 p) (i32 v) (i32 n) (i32 m) (i32 0) s0 σ = L_longBy_38 F x4 x5 (i32 B) (i32 (p + 1 + ln t)) (i32 V2) (i32 (n + 1)) (i32 m) (i32 0) υ := by
    intro s0 h0
    have hz : bzb s0 = true := by rw [h0]; split <;> rfl
    have e1 : f_puts 92 (setF σ 27 s0) = some (0, pt (setF σ 27 s0) T (i32 92)) := m_puts _ (by simp only [setF, upd]; exact hT) ht
    unfold B_longBy_137
    rw [if_pos hz, e1, Option.bind_some, show i32 p + 1 = i32 (p + 1) from by rw [z1, z_add], show i32 n + 1 = i32 (n + 1) from by rw [z1, z_add]]
    dsimp only
    rw [h0, hs, Option.bind_some]
    dsimp only
    rw [show f_lays 2 (i32 v) (i32 q) 0 τ = some (i32 V2, lay τ V2 (pk 2 v q 0)) from m_lays (s := 2) (a := v) (b := q) (l := 0) hV2 h2 (by omega) (by omega) (by omega) (by omega), Option.bind_some]
    dsimp only
    rw [eb, Option.bind_some]
    dsimp only
    rw [B_longBy_281, hck, Option.bind_some]
  rw [L_longBy_38, if_pos (show i32 0 = 0 from rfl), if_pos (show σ.1 27 = 0 from h27), if_pos (c_ix (show p < aln 1 from hp) (by omega)), z_nn (show p < 2147483648 by omega), hg, if_neg (show ¬ (i32 80 = 83) from by decide), if_pos (show i32 80 = 80 from rfl)]
  by_cases h10 : n < 10
  · rw [if_pos (show i32 n < 10 from by rw [show (10 : Int32) = i32 10 from rfl, z_lt (by omega) (by omega)]; exact h10)]
    exact key _ (by rw [if_pos h10]; rfl)
  · rw [if_neg (show ¬ (i32 n < 10) from by rw [show (10 : Int32) = i32 10 from rfl, z_lt (by omega) (by omega)]; exact h10)]
    exact key _ (by rw [if_neg h10]; rfl)
end STEP
end MLONG

section MTYPE
theorem TPre_of {σ : MS} {B T V E F n W lev : Nat} (h27 : σ.1 27 = i32 0) (h1 : σ.1 1 = i32 T) (h19 : σ.1 19 = i32 V) (h21 : σ.1 21 = i32 E) (a1 : B ≤ T) (a2 : T ≤ B + 50) (a3 : B + 60 ≤ 9400) (a4 : 60 ≤ F + (T - B)) (a5 : n ≤ T - B) (a6 : E + 52 ≤ 120 + (T - B)) (a7 : V + W ≤ 2400) (a8 : lev ≤ 10) (a9 : 20 ≤ V) (a10 : ∀ k, k < 20 → σ.2.2 k = pk 0 k 0 0) : TPre σ B T V E F n W lev := ⟨h27, h1, h19, h21, a1, a2, a3, a4, a5, a6, a7, a8, a9, a10⟩
/-- tells, whole -/
theorem m_tells {B T V E q lev : Nat} {v t : Tr} {σ : MS} (ha : TAll B v t lev) (hp : TPre σ B T V E 10000 0 (wv v) lev) (hr : rpM σ V E T false v q) : (T + ln t ≤ B + 50 ∧ dp t lev → ∃ τ, f_tells (i32 q) (i32 lev) (i32 B) σ = some (0, τ) ∧ TOk σ τ T V E 0 (wv v) t) ∧ (¬ (T + ln t ≤ B + 50 ∧ dp t lev) → ∃ τ, f_tells (i32 q) (i32 lev) (i32 B) σ = some (0, τ) ∧ TBig σ τ V E T) := by
  have e : f_tells (i32 q) (i32 lev) (i32 B) σ = L_tells_17 10000 (i32 B) (i32 (0 + 1)) (psh σ 0 q lev) := by
    unfold f_tells
    rw [if_pos (show ix 0 (aln 16) = true from rfl), if_pos (show ix 0 (aln 17) = true from rfl)]
    rfl
  have k := psh_kp σ 0 q lev V E T
  have c := psh_ch σ 0 q lev
  have run := ha (psh σ 0 q lev) T V E 10000 0 q hp (psh_16 _ _ _ _) (psh_17 _ _ _ _) (rp_kp k (Nat.le_refl _) (Nat.le_refl _) (Nat.le_refl _) _ _ _ hr)
  rw [e]
  constructor
  · intro hf
    obtain ⟨F', τ, r1, r2, V', E', r3, r4, r5, r6, r7, r8, r9, r10, r11, r12, r13, r14⟩ := run.1 hf
    have hl : ln t ≤ 50 := by have := hf.1; have := hp.2.2.2.2.1; omega
    obtain ⟨G, rfl⟩ : ∃ G, F' = G + 1 := ⟨F' - 1, by omega⟩
    exact ⟨τ, by rw [r2, tells_end], V', E', r3, r4, r5, r6, r7, r8, r9, r10, r11, kp_tr k r12 (Nat.le_refl _) (Nat.le_refl _) (Nat.le_refl _), ch_tr c r13, fun i hi => absurd hi (by omega)⟩
  · intro hf
    obtain ⟨τ, r1, r2⟩ := run.2 hf
    exact ⟨τ, r1, TBig_of k c r2 (Nat.le_refl _) (Nat.le_refl _) (Nat.le_refl _)⟩
/-- what was told: a place, or that it is too large; the values and rows are as they were -/
def TRes (σ τ : MS) (F A : List Nat) (T V E : Nat) (t : Tr) (lev : Nat) (r : Int32) : Prop := kp σ τ V E T ∧ ch F A σ τ ∧ τ.1 19 = i32 V ∧ τ.1 21 = i32 E ∧ ((fits t lev ∧ r = i32 T ∧ τ.1 1 = i32 (T + ln t) ∧ fm (τ.2.1 1) t T) ∨ (¬ fits t lev ∧ r = -1 ∧ τ.1 1 = i32 T))
def FY : List Nat := [1, 19, 21, 24, 27]
def AY : List Nat := [1, 11, 12, 13, 14, 15, 16, 17, 18]
theorem m_told0 {σ : MS} (x1 x2 x3 : Int32) (h : σ.1 27 = i32 0) : f_told x1 x2 x3 σ = some (x1, setF (setF σ 19 x2) 21 x3) := by
  unfold f_told
  rw [if_pos (show (setF (setF σ 19 x2) 21 x3).1 27 = 0 from h)]
theorem m_told1 {σ : MS} (x1 x2 x3 : Int32) (h : σ.1 27 = i32 1) : f_told x1 x2 x3 σ = some (-1, setF (setF (setF σ 19 x2) 21 x3) 1 x1) := by
  unfold f_told
  rw [if_neg (show ¬ ((setF (setF σ 19 x2) 21 x3).1 27 = 0) from nz1 h)]
theorem told_ok {σ τ : MS} {F A : List Nat} {T V E V' E' : Nat} {t : Tr} {lev : Nat} (hk : kp σ τ V E T) (hc : ch F A σ τ) (hf : fits t lev) (h1 : τ.1 1 = i32 (T + ln t)) (hm : fm (τ.2.1 1) t T) (h27 : τ.1 27 = i32 0) (m19 : 19 ∈ F) (m21 : 21 ∈ F) : ∃ υ, f_told (i32 T) (i32 V) (i32 E) τ = some (i32 T, υ) ∧ TRes σ υ F A T V E t lev (i32 T) := by
  refine ⟨_, m_told0 _ _ _ h27, kp_tr hk (kp_tr (kp_setF τ 19 _ V E T) (kp_setF _ 21 _ V E T) (Nat.le_refl _) (Nat.le_refl _) (Nat.le_refl _)) (Nat.le_refl _) (Nat.le_refl _) (Nat.le_refl _), ch_tr hc (ch_tr (ch_setF τ _ m19) (ch_setF _ _ m21)), by simp [setF, upd], by simp [setF, upd], Or.inl ⟨hf, rfl, ?_, hm⟩⟩
  simp only [setF, upd]
  exact h1
theorem told_big {σ τ : MS} {F A : List Nat} {T V E : Nat} {t : Tr} {lev : Nat} (hk : kp σ τ V E T) (hc : ch F A σ τ) (hf : ¬ fits t lev) (h27 : τ.1 27 = i32 1) (m19 : 19 ∈ F) (m21 : 21 ∈ F) (m1 : 1 ∈ F) : ∃ υ, f_told (i32 T) (i32 V) (i32 E) τ = some (-1, υ) ∧ TRes σ υ F A T V E t lev (-1) := by
  refine ⟨_, m_told1 _ _ _ h27, kp_tr hk (kp_tr (kp_setF τ 19 _ V E T) (kp_tr (kp_setF _ 21 _ V E T) (kp_setF _ 1 _ V E T) (Nat.le_refl _) (Nat.le_refl _) (Nat.le_refl _)) (Nat.le_refl _) (Nat.le_refl _) (Nat.le_refl _)) (Nat.le_refl _) (Nat.le_refl _) (Nat.le_refl _), ch_tr hc (ch_tr (ch_setF τ _ m19) (ch_tr (ch_setF _ _ m21) (ch_setF _ _ m1))), by simp [setF, upd], by simp [setF, upd], Or.inr ⟨hf, rfl, by simp [setF, upd]⟩⟩
/-- toldValue: the normal form of a long value -/
theorem m_toldValue {L : Lw} (hL : L.2.length ≤ 4) {N : List Tr} {s v : Tr} {σ0 σ : MS} {T V E V1 E1 q lev : Nat} (hv : RV L N s v) (hN : N.length = lev) (hlev : lev ≤ 10) (hT : σ.1 1 = i32 T) (h19 : σ.1 19 = i32 V1) (h21 : σ.1 21 = i32 E1) (hr : rpM σ V1 E1 T false v q) (hk : kp σ0 σ V E T) (hV : V ≤ V1) (hE : E ≤ E1) (b1 : T + 60 ≤ 9400) (b2 : V1 + wv v ≤ 2400) (b3 : E1 ≤ 68) (b4 : 20 ≤ V) (b5 : ∀ k, k < 20 → σ0.2.2 k = pk 0 k 0 0) (hc : ch FY AY σ0 σ) : ∃ r υ, f_toldValue (i32 q) (i32 lev) (i32 V) (i32 E) σ = some (r, υ) ∧ TRes σ0 υ FY AY T V E (qs s v lev) lev r := by
  have hp : TPre (setF σ 27 (i32 0)) T T V1 E1 10000 0 (wv v) lev := TPre_of (by simp [setF, upd]) (by simp only [setF, upd]; exact hT) (by simp only [setF, upd]; exact h19) (by simp only [setF, upd]; exact h21) (Nat.le_refl _) (by omega) (by omega) (by omega) (by omega) (by omega) b2 hlev (by omega) (fun k hk' => by show σ.2.2 k = _; rw [hk.1 k (by omega)]; exact b5 k hk')
  have k0 := kp_setF σ 27 (i32 0) V1 E1 T
  have tl := m_tells (TR hL s v N lev hN hv) hp (rp_kp k0 (Nat.le_refl _) (Nat.le_refl _) (Nat.le_refl _) _ _ _ hr)
  have cm : ∀ {a b : MS}, ch FT AT a b → ch FY AY a b := fun h => ch_mo h (by simp [FT, FY]) (by simp only [AT, AY]; intro k hk; simp at hk ⊢; omega)
  have c0 : ch FY AY σ0 (setF σ 27 (i32 0)) := ch_tr hc (ch_setF σ _ (by simp [FY]))
  unfold f_toldValue
  rw [show setF σ 27 0 = setF σ 27 (i32 0) from rfl, hT]
  by_cases hf : T + ln (qs s v lev) ≤ T + 50 ∧ dp (qs s v lev) lev
  · obtain ⟨τ, r1, V', E', r3, r4, r5, r6, r7, r8, r9, r10, r11, r12, r13, r14⟩ := tl.1 hf
    obtain ⟨υ, s1, s2⟩ := told_ok (V' := V') (E' := E') (t := qs s v lev) (lev := lev) (kp_tr hk (kp_tr k0 r12 (Nat.le_refl _) (Nat.le_refl _) (Nat.le_refl _)) hV hE (Nat.le_refl _)) (ch_tr c0 (cm r13)) ⟨by have := hf.1; unfold ln at this; omega, hf.2⟩ r4 r5 r3 (by simp [FY]) (by simp [FY])
    refine ⟨_, υ, ?_, s2⟩
    rw [r1, Option.bind_some]
    dsimp only
    rw [s1, Option.bind_some]
  · obtain ⟨τ, r1, r2, r3, r4⟩ := tl.2 hf
    obtain ⟨υ, s1, s2⟩ := told_big (t := qs s v lev) (lev := lev) (kp_tr hk (kp_tr k0 r3 (Nat.le_refl _) (Nat.le_refl _) (Nat.le_refl _)) hV hE (Nat.le_refl _)) (ch_tr c0 (cm r4)) (fun h => hf ⟨by have := h.1; unfold ln; omega, h.2⟩) r2 (by simp [FY]) (by simp [FY]) (by simp [FY])
    refine ⟨_, υ, ?_, s2⟩
    rw [r1, Option.bind_some]
    dsimp only
    rw [s1, Option.bind_some]
theorem m_with0 {σ : MS} {E e lv : Nat} (x : Int32) (V T : Nat) (hee : e < E) (hl : lv < 10) (hE : σ.1 21 = i32 E) (he : E < 120) : ∃ τ, f_with (i32 e) (i32 lv) x σ = some (i32 E, τ) ∧ τ.1 21 = i32 (E + 1) ∧ kp σ τ V E T ∧ ch [21] [11] σ τ ∧ (∀ i, i < 10 → τ.2.1 11 (10 * E + i) = if i = lv then x else σ.2.1 11 (10 * e + i)) := by
  let υ : MS := brg (setF σ 21 (i32 (E + 1))) 11 (10 * e) 11 (10 * E) 10
  let τ : MS := setA υ 11 (10 * E + lv) x
  have hυ : ∀ i, i < 10 → υ.2.1 11 (10 * E + i) = σ.2.1 11 (10 * e + i) := by
    intro i hi
    show (if 11 = 11 then (fun q => if 10 * E ≤ q ∧ q < 10 * E + 10 then σ.2.1 11 (10 * e + (q - 10 * E)) else σ.2.1 11 q) else σ.2.1 11) (10 * E + i) = _
    rw [if_pos rfl, if_pos (by omega), show 10 * E + i - 10 * E = i by omega]
  refine ⟨τ, ?_, ?_, ⟨fun _ _ => rfl, fun i hi => ?_, fun _ _ => rfl, rfl⟩, ⟨fun k hk => ?_, fun j hj => ?_⟩, fun i hi => ?_⟩
  · unfold f_with
    simp only [hE]
    have e1 : f_bring 11 (10 * i32 e) 11 (10 * i32 E) 10 (setF σ 21 (i32 E + 1)) = some (0, υ) := by
      rw [show (10 : Int32) * i32 e = i32 (10 * e) from by rw [z10, z_mul], show (10 : Int32) * i32 E = i32 (10 * E) from by rw [z10, z_mul], show i32 E + 1 = i32 (E + 1) from by rw [z1, z_add], show (10 : Int32) = i32 10 from rfl]
      exact m_bring _ (show 10 * e + 10 ≤ 1200 by omega) (show 10 * E + 10 ≤ 1200 by omega) (by omega)
    rw [e1, Option.bind_some]
    simp (disch := omega) only [z10, z_mul, z_add, z_ixT, z_nn, al1, al2, al3, al4, al5, al6, al7, al8, al9, al10, al11, al12, al13, al14, al15, al16, al17, al18, al19, al20, al21, al22, al23, al24, al25, al26, al27, al28, al29, al30, al31, al32, al33, if_true]
    rfl
  · show (brg (setF σ 21 (i32 (E + 1))) 11 (10 * e) 11 (10 * E) 10).1 21 = _
    simp [brg, setF, upd]
  · show (setA υ 11 (10 * E + lv) x).2.1 11 i = _
    rw [setA_ne _ _ (Or.inr (by omega))]
    show (if 11 = 11 then (fun q => if 10 * E ≤ q ∧ q < 10 * E + 10 then σ.2.1 11 (10 * e + (q - 10 * E)) else σ.2.1 11 q) else σ.2.1 11) i = _
    rw [if_pos rfl, if_neg (by omega)]
  · show (if k = 21 then i32 (E + 1) else σ.1 k) = σ.1 k
    rw [if_neg (fun e => hk (by simp [e]))]
  · have hj' : j ≠ 11 := fun e => hj (by simp [e])
    show (setA υ 11 (10 * E + lv) x).2.1 j = _
    simp only [setA]
    rw [if_neg hj']
    show (if j = 11 then _ else σ.2.1 j) = σ.2.1 j
    rw [if_neg hj']
  · by_cases h : i = lv
    · rw [if_pos h, h]; exact setA_at _ _ _ _
    · rw [if_neg h, ← hυ i hi]; exact setA_ne _ _ (Or.inr (by omega))
theorem m_ty60 {base names E : Nat} (x1 x5 x6 x7 : Int32) (hE : E < 120) (hn : names ≤ 10) : ∀ (d F k : Nat) (σ : MS), k + d = 10 → d < F → base ≤ k → ∃ υ, L_typeBy_60 F x1 (i32 base) (i32 names) x5 x6 x7 (i32 E) (i32 k) σ = L_typeBy_111 10000 (i32 base) (i32 names) x5 x6 x7 (i32 E) x1 (i32 1) (setA (setF υ 27 (i32 0)) 18 0 (i32 0)) ∧ υ.1 = σ.1 ∧ υ.2.2 = σ.2.2 ∧ (∀ j, j ≠ 11 → υ.2.1 j = σ.2.1 j) ∧ ∀ q, υ.2.1 11 q = if 10 * E + k ≤ q ∧ q < 10 * E + 10 then i32 (names + (q - 10 * E) - base) else σ.2.1 11 q := by
  intro d
  induction d with
  | zero =>
    intro F k σ hk hF hb
    obtain ⟨F, rfl⟩ : ∃ F', F = F' + 1 := ⟨F - 1, by omega⟩
    obtain rfl : k = 10 := by omega
    refine ⟨σ, ?_, rfl, rfl, fun _ _ => rfl, fun q => by rw [if_neg (by omega)]⟩
    rw [L_typeBy_60, if_pos (show (10 : Int32) ≤ i32 10 from Int32.le_refl _), if_pos (show ix 0 (aln 18) = true from rfl)]
    rfl
  | succ d ih =>
    intro F k σ hk hF hb
    obtain ⟨F, rfl⟩ : ∃ F', F = F' + 1 := ⟨F - 1, by omega⟩
    obtain ⟨υ, g1, g2, g3, g4, g5⟩ := ih F (k + 1) (setA σ 11 (10 * E + k) (i32 (names + k - base))) (by omega) (by omega) (by omega)
    refine ⟨υ, ?_, g2, g3, fun j hj => ?_, fun q => ?_⟩
    · rw [← g1, L_typeBy_60]
      simp (disch := omega) only [z10, z1, z_leF, z_mul, z_add, z_sub, z_ixT, z_nn, al1, al2, al3, al4, al5, al6, al7, al8, al9, al10, al11, al12, al13, al14, al15, al16, al17, al18, al19, al20, al21, al22, al23, al24, al25, al26, al27, al28, al29, al30, al31, al32, al33, if_true, if_false]
    · rw [g4 j hj]; simp only [setA]; rw [if_neg hj]
    · rw [g5 q]
      by_cases h : q = 10 * E + k
      · subst h
        rw [if_neg (by omega), if_pos (by omega), setA_at, show 10 * E + k - 10 * E = k by omega]
      · rw [setA_ne _ _ (Or.inr h)]
        by_cases h2 : 10 * E + (k + 1) ≤ q ∧ q < 10 * E + 10
        · rw [if_pos h2, if_pos (by omega)]
        · rw [if_neg h2, if_neg (by omega)]
end MTYPE

/-- a natural number as an int -/
def i32 (n : Nat) : Int32 := Int32.ofNat n
theorem z0 : (0 : Int32) = i32 0 := Eq.trans rfl rfl
theorem z1 : (1 : Int32) = i32 1 := Eq.trans rfl rfl
theorem z2 : (2 : Int32) = i32 2 := Eq.trans rfl rfl
theorem z3 : (3 : Int32) = i32 3 := Eq.trans rfl rfl
theorem z4 : (4 : Int32) = i32 4 := Eq.trans rfl rfl
theorem z5 : (5 : Int32) = i32 5 := Eq.trans rfl rfl
theorem z6 : (6 : Int32) = i32 6 := Eq.trans rfl rfl
theorem z7 : (7 : Int32) = i32 7 := Eq.trans rfl rfl
theorem z8 : (8 : Int32) = i32 8 := Eq.trans rfl rfl
theorem z9 : (9 : Int32) = i32 9 := Eq.trans rfl rfl
theorem z10 : (10 : Int32) = i32 10 := Eq.trans rfl rfl
theorem z13 : (13 : Int32) = i32 13 := Eq.trans rfl rfl
theorem z15 : (15 : Int32) = i32 15 := Eq.trans rfl rfl
theorem z20 : (20 : Int32) = i32 20 := Eq.trans rfl rfl
theorem z32 : (32 : Int32) = i32 32 := Eq.trans rfl rfl
theorem z33 : (33 : Int32) = i32 33 := Eq.trans rfl rfl
theorem z40 : (40 : Int32) = i32 40 := Eq.trans rfl rfl
theorem z42 : (42 : Int32) = i32 42 := Eq.trans rfl rfl
theorem z44 : (44 : Int32) = i32 44 := Eq.trans rfl rfl
theorem z46 : (46 : Int32) = i32 46 := Eq.trans rfl rfl
theorem z48 : (48 : Int32) = i32 48 := Eq.trans rfl rfl
theorem z49 : (49 : Int32) = i32 49 := Eq.trans rfl rfl
theorem z50 : (50 : Int32) = i32 50 := Eq.trans rfl rfl
theorem z51 : (51 : Int32) = i32 51 := Eq.trans rfl rfl
theorem z57 : (57 : Int32) = i32 57 := Eq.trans rfl rfl
theorem z58 : (58 : Int32) = i32 58 := Eq.trans rfl rfl
theorem z60 : (60 : Int32) = i32 60 := Eq.trans rfl rfl
theorem z62 : (62 : Int32) = i32 62 := Eq.trans rfl rfl
theorem z65 : (65 : Int32) = i32 65 := Eq.trans rfl rfl
theorem z67 : (67 : Int32) = i32 67 := Eq.trans rfl rfl
theorem z80 : (80 : Int32) = i32 80 := Eq.trans rfl rfl
theorem z83 : (83 : Int32) = i32 83 := Eq.trans rfl rfl
theorem z92 : (92 : Int32) = i32 92 := Eq.trans rfl rfl
theorem z97 : (97 : Int32) = i32 97 := Eq.trans rfl rfl
theorem z100 : (100 : Int32) = i32 100 := Eq.trans rfl rfl
theorem z102 : (102 : Int32) = i32 102 := Eq.trans rfl rfl
theorem z255 : (255 : Int32) = i32 255 := Eq.trans rfl rfl
theorem z357 : (357 : Int32) = i32 357 := Eq.trans rfl rfl
theorem z612 : (612 : Int32) = i32 612 := Eq.trans rfl rfl
theorem z969 : (969 : Int32) = i32 969 := Eq.trans rfl rfl
theorem z1326 : (1326 : Int32) = i32 1326 := Eq.trans rfl rfl
theorem z1734 : (1734 : Int32) = i32 1734 := Eq.trans rfl rfl
theorem z10000 : (10000 : Int32) = i32 10000 := Eq.trans rfl rfl
theorem z_add (a b : Nat) : i32 a + i32 b = i32 (a + b) := (Int32.ofNat_add a b).symm
theorem z_mul (a b : Nat) : i32 a * i32 b = i32 (a * b) := (Int32.ofNat_mul a b).symm
theorem z_sub {a b : Nat} (h : b ≤ a) : i32 a - i32 b = i32 (a - b) := (Int32.ofNat_sub a b h).symm
theorem z_lt {a b : Nat} (ha : a < 2147483648) (hb : b < 2147483648) : (i32 a < i32 b) = (a < b) := propext (Int32.ofNat_lt_iff_lt ha hb)
theorem z_le {a b : Nat} (ha : a < 2147483648) (hb : b < 2147483648) : (i32 a ≤ i32 b) = (a ≤ b) := propext (Int32.ofNat_le_iff_le ha hb)
theorem z_nn {a : Nat} (h : a < 2147483648) : (i32 a).toNatClampNeg = a := Int32.toNatClampNeg_ofNat_of_lt h
theorem z_eq {a b : Nat} (ha : a < 2147483648) (hb : b < 2147483648) : (i32 a = i32 b) = (a = b) := propext ⟨fun h => by have := congrArg Int32.toNatClampNeg h; rwa [z_nn ha, z_nn hb] at this, fun h => by rw [h]⟩
theorem z_ix {a n : Nat} (h : a < 2147483648) : ix (i32 a) n = decide (a < n) := by
  unfold ix
  have e : ¬ (i32 a < 0) := by rw [z0, z_lt h (by omega)]; omega
  simp only [e, decide_false, Bool.false_or, z_nn h]
  by_cases h2 : a < n
  · simp [h2, Nat.not_le.mpr h2]
  · simp [h2, Nat.not_lt.mp h2]
theorem z_leT {a b : Nat} (h : a ≤ b) (hb : b < 2147483648) : (i32 a ≤ i32 b) = True := by rw [z_le (by omega) hb]; exact eq_true h
theorem z_leF {a b : Nat} (h : b < a) (ha : a < 2147483648) : (i32 a ≤ i32 b) = False := by rw [z_le ha (by omega)]; exact eq_false (by omega)
theorem z_ltT {a b : Nat} (h : a < b) (hb : b < 2147483648) : (i32 a < i32 b) = True := by rw [z_lt (by omega) hb]; exact eq_true h
theorem z_ltF {a b : Nat} (h : b ≤ a) (ha : a < 2147483648) : (i32 a < i32 b) = False := by rw [z_lt ha (by omega)]; exact eq_false (by omega)
theorem z_eqT {a b : Nat} (h : a = b) : (i32 a = i32 b) = True := eq_true (by rw [h])
theorem z_eqF {a b : Nat} (h : a ≠ b) (ha : a < 2147483648) (hb : b < 2147483648) : (i32 a = i32 b) = False := by rw [z_eq ha hb]; exact eq_false h
theorem z_ixT {a n : Nat} (h : a < n) (ha : a < 2147483648) : (ix (i32 a) n = true) = True := by rw [z_ix ha]; exact eq_true (decide_eq_true h)
theorem z_ixF {a n : Nat} (h : n ≤ a) (ha : a < 2147483648) : (ix (i32 a) n = true) = False := by rw [z_ix ha]; exact eq_false (by simp; omega)
theorem al1 : aln 1 = 9400 := rfl
theorem al2 : aln 2 = 32 := rfl
theorem al3 : aln 3 = 3 := rfl
theorem al4 : aln 4 = 4 := rfl
theorem al5 : aln 5 = 8 := rfl
theorem al6 : aln 6 = 8 := rfl
theorem al7 : aln 7 = 816 := rfl
theorem al8 : aln 8 = 1224 := rfl
theorem al9 : aln 9 = 2 := rfl
theorem al10 : aln 10 = 2400 := rfl
theorem al11 : aln 11 = 1200 := rfl
theorem al12 : aln 12 = 60 := rfl
theorem al13 : aln 13 = 60 := rfl
theorem al14 : aln 14 = 60 := rfl
theorem al15 : aln 15 = 60 := rfl
theorem al16 : aln 16 = 60 := rfl
theorem al17 : aln 17 = 60 := rfl
theorem al18 : aln 18 = 60 := rfl
theorem al19 : aln 19 = 60 := rfl
theorem al20 : aln 20 = 60 := rfl
theorem al21 : aln 21 = 60 := rfl
theorem al22 : aln 22 = 60 := rfl
theorem al23 : aln 23 = 40 := rfl
theorem al24 : aln 24 = 40 := rfl
theorem al25 : aln 25 = 40 := rfl
theorem al26 : aln 26 = 40 := rfl
theorem al27 : aln 27 = 40 := rfl
theorem al28 : aln 28 = 40 := rfl
theorem al29 : aln 29 = 40 := rfl
theorem al30 : aln 30 = 40 := rfl
theorem al31 : aln 31 = 40 := rfl
theorem al32 : aln 32 = 10 := rfl
theorem al33 : aln 33 = 3 := rfl
theorem z_ofInt {a b : Nat} (h : a ≤ b) : i32 a - i32 b = Int32.ofInt (-((b - a : Nat) : Int)) := by
  unfold i32
  rw [← Int32.ofInt_eq_ofNat, ← Int32.ofInt_eq_ofNat, ← Int32.ofInt_sub]
  congr 1
  omega
theorem z_neg {a b : Nat} (h : a < b) (hb : b < 2147483648) : (i32 a - i32 b < i32 0) = True := by
  rw [z_ofInt (by omega), show i32 0 = Int32.ofInt 0 from rfl]
  refine eq_true ((Int32.ofInt_lt_iff_lt ?_ ?_ ?_ ?_).mpr ?_) <;> simp [Int32.toInt_minValue, Int32.toInt_maxValue] <;> omega
/-- how many parts a sign has -/
def ar (f : Nat → Bool) (s : Nat) : Nat :=
  if s = 83 ∨ s = 80 ∨ s = 46 ∨ s = 44 then 2 else if s = 60 ∨ s = 62 ∨ s = 92 then 1 else if 65 ≤ s ∧ s ≤ 67 ∧ f (s - 65) = true then 1 else 0
/-- a tree whose signs have the parts that are due -/
def pr (f : Nat → Bool) : Tr → Prop
  | .leaf s => s ≠ 0 ∧ s < 128 ∧ ar f s = 0
  | .branch s a b => s ≠ 0 ∧ s < 128 ∧ ((ar f s = 2 ∧ pr f a ∧ pr f b) ∨ (ar f s = 1 ∧ pr f a ∧ b = .leaf 0))
abbrev ln (t : Tr) : Nat := (enc t).length
theorem ln_br (s : Nat) (a b : Tr) : ln (.branch s a b) = 1 + ln a + ln b := by
  simp [ln, enc]; omega
theorem ln_0 : ln (.leaf 0) = 0 := rfl
theorem ln_leaf {s : Nat} (h : s ≠ 0) : ln (.leaf s) = 1 := by simp [ln, enc, h]
theorem ln_le (s : Nat) : ln (.leaf s) ≤ 1 := by
  by_cases h : s = 0
  · subst h; exact Nat.zero_le _
  · rw [ln_leaf h]; exact Nat.le_refl _
/-- a form's signs at a place of a row -/
def fm (g : Nat → Int32) : Tr → Nat → Prop
  | .leaf s, p => s ≠ 0 → g p = i32 s
  | .branch s a b, p => g p = i32 s ∧ fm g a (p + 1) ∧ fm g b (p + 1 + ln a)
theorem fm_ext {g h : Nat → Int32} : ∀ (t : Tr) (p : Nat), (∀ k, p ≤ k → k < p + ln t → h k = g k) → fm g t p → fm h t p := by
  intro t
  induction t with
  | leaf s =>
    intro p he hg hs
    rw [he p (Nat.le_refl _) (by rw [ln_leaf hs]; omega)]; exact hg hs
  | branch s a b iha ihb =>
    intro p he hg
    rw [ln_br] at he
    refine ⟨?_, iha _ (fun k h1 h2 => he k (by omega) (by omega)) hg.2.1, ihb _ (fun k h1 h2 => he k (by omega) (by omega)) hg.2.2⟩
    rw [he p (by omega) (by omega)]; exact hg.1
/-- a form's signs, one by one -/
theorem gD_l {l m : List Nat} {k : Nat} (h : k < l.length) : (l ++ m).getD k 0 = l.getD k 0 := by
  simp only [List.getD_eq_getElem?_getD]
  rw [List.getElem?_append_left h]
theorem gD_r {l m : List Nat} {k : Nat} : (l ++ m).getD (l.length + k) 0 = m.getD k 0 := by
  simp only [List.getD_eq_getElem?_getD]
  rw [List.getElem?_append_right (by omega), show l.length + k - l.length = k by omega]
theorem gD_s {l : List Nat} {a k : Nat} : (a :: l).getD (k + 1) 0 = l.getD k 0 := by
  simp only [List.getD_eq_getElem?_getD, List.getElem?_cons_succ]
theorem fm_iff {g : Nat → Int32} : ∀ (t : Tr) (p : Nat), fm g t p ↔ ∀ k, k < ln t → g (p + k) = i32 ((enc t).getD k 0) := by
  intro t
  induction t with
  | leaf s =>
    intro p
    by_cases hs : s = 0
    · subst hs
      exact ⟨fun _ k h => absurd h (by simp [ln, enc]), fun _ h => absurd rfl h⟩
    · constructor
      · intro h k hk
        have : k = 0 := by rw [ln_leaf hs] at hk; omega
        subst this
        simp [enc, hs]
        exact h hs
      · intro h _
        have := h 0 (by rw [ln_leaf hs]; omega)
        simpa [enc, hs] using this
  | branch s a b iha ihb =>
    intro p
    simp only [fm]
    rw [iha, ihb]
    constructor
    · rintro ⟨h1, h2, h3⟩ k hk
      rw [ln_br] at hk
      cases k with
      | zero => simpa [enc] using h1
      | succ k =>
        simp only [enc]
        rw [gD_s]
        by_cases hka : k < ln a
        · rw [gD_l hka, ← h2 k hka, show p + (k + 1) = p + 1 + k by omega]
        · obtain ⟨d, hd⟩ : ∃ d, k = (enc a).length + d := ⟨k - ln a, by unfold ln at hka ⊢; omega⟩
          subst hd
          rw [gD_r, ← h3 d (by unfold ln at hk ⊢; omega)]
          rw [show p + ((enc a).length + d + 1) = p + 1 + ln a + d by unfold ln; omega]
    · intro h
      refine ⟨?_, fun k hk => ?_, fun k hk => ?_⟩
      · have := h 0 (by rw [ln_br]; omega)
        simpa [enc] using this
      · have := h (k + 1) (by rw [ln_br]; omega)
        simp only [enc] at this
        rw [gD_s, gD_l hk] at this
        rw [← this, show p + (k + 1) = p + 1 + k by omega]
      · have := h ((enc a).length + k + 1) (by rw [ln_br]; unfold ln at *; omega)
        simp only [enc] at this
        rw [gD_s, gD_r] at this
        rw [← this, show p + ((enc a).length + k + 1) = p + 1 + ln a + k by unfold ln; omega]
theorem pr_pos {f : Nat → Bool} {t : Tr} (h : pr f t) : 1 ≤ ln t := by
  cases t with
  | leaf s => rw [ln_leaf h.1]; exact Nat.le_refl _
  | branch s a b => rw [ln_br]; omega
/-- the reference's families that have an index -/
def fxM (σ : MS) (k : Nat) : Bool := !(σ.2.1 3 k == 0)
theorem m_in (x a b : Int32) (σ : MS) : f_in x a b σ = some (if a ≤ x ∧ x ≤ b then 1 else 0, σ) := by
  have e1 : (x < a) ↔ ¬ (a ≤ x) := ⟨Int32.not_le.mpr, Int32.not_le.mp⟩
  have e2 : (b < x) ↔ ¬ (x ≤ b) := ⟨Int32.not_le.mpr, Int32.not_le.mp⟩
  unfold f_in B_in_14 B_in_15
  by_cases h1 : a ≤ x <;> by_cases h2 : x ≤ b <;> simp [e1, e2, h1, h2, bzb]

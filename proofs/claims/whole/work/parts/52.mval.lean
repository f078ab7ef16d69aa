section MVAL
theorem wb_tb (n : Nat) : (lN n).toBitVec = BitVec.ofNat 64 n := rfl
theorem wb_inj {a b : Int64} (h : a.toBitVec = b.toBitVec) : a = b := Int64.toBitVec_inj.mp h
theorem wb_c : ∀ k, k < 64 → ((nI k).toInt64 &&& 63) = lN k := by decide +kernel
theorem wb_sm : ∀ k, k < 64 → (BitVec.ofNat 64 k).smod 64 = BitVec.ofNat 64 k := by decide +kernel
theorem wb_lt2 {a b : Nat} (h : a < b) : 2 ^ a < 2 ^ b := Nat.pow_lt_pow_right (by decide) h
theorem wb_shl (n : Nat) {k : Nat} (hk : k < 64) : lN n <<< ((nI k).toInt64 &&& 63) = lN (n * 2 ^ k) := by
  rw [wb_c k hk]
  apply wb_inj
  rw [Int64.toBitVec_shiftLeft, wb_tb, wb_tb, wb_tb, wb_sm k hk]
  apply BitVec.eq_of_toNat_eq
  rw [BitVec.shiftLeft_eq', BitVec.toNat_shiftLeft, BitVec.toNat_ofNat, BitVec.toNat_ofNat, BitVec.toNat_ofNat, Nat.mod_eq_of_lt (show k < 2 ^ 64 by omega), Nat.shiftLeft_eq, Nat.mul_mod, Nat.mod_mod, ← Nat.mul_mod]
theorem wb_and {a b : Nat} (ha : a < 2 ^ 64) (hb : b < 2 ^ 64) : lN a &&& lN b = lN (a &&& b) := by
  apply wb_inj
  rw [Int64.toBitVec_and, wb_tb, wb_tb, wb_tb]
  apply BitVec.eq_of_toNat_eq
  rw [BitVec.toNat_and, BitVec.toNat_ofNat, BitVec.toNat_ofNat, BitVec.toNat_ofNat, Nat.mod_eq_of_lt ha, Nat.mod_eq_of_lt hb, Nat.mod_eq_of_lt (Nat.and_lt_two_pow _ hb)]
theorem wb_or {a b : Nat} (ha : a < 2 ^ 64) (hb : b < 2 ^ 64) : lN a ||| lN b = lN (a ||| b) := by
  apply wb_inj
  rw [Int64.toBitVec_or, wb_tb, wb_tb, wb_tb]
  apply BitVec.eq_of_toNat_eq
  rw [BitVec.toNat_or, BitVec.toNat_ofNat, BitVec.toNat_ofNat, BitVec.toNat_ofNat, Nat.mod_eq_of_lt ha, Nat.mod_eq_of_lt hb, Nat.mod_eq_of_lt (Nat.or_lt_two_pow ha hb)]
theorem wb_mask {n k : Nat} (hn : n < 2 ^ 64) (hk : k < 64) : lN n &&& lN (2 ^ k - 1) = lN (n % 2 ^ k) := by
  rw [wb_and hn (by have := wb_lt2 hk; omega), Nat.and_two_pow_sub_one_eq_mod]
theorem pf_lI {a : Nat} (h : a < 2 ^ 63) : (lN a).toInt = (a : Int) := lg_ofNat_toInt h
theorem pf_shr {a d : Nat} {D : Int64} (hD : (D.toBitVec.smod 64).toNat = d) (h : a < 2 ^ 62) : lN a >>> D = lN (a / 2 ^ d) := by
  have hd : a / 2 ^ d ≤ a := Nat.div_le_self _ _
  apply Int64.toInt_inj.mp
  have e : (lN a >>> D).toInt = (lN a).toInt >>> d := by
    rw [← hD]
    exact BitVec.toInt_sshiftRight ..
  rw [e, Int.shiftRight_eq_div_pow, pf_lI (by omega), pf_lI (by omega)]
  rfl
/-- a value of the reference as its long -/
def pk (s a b l : Nat) : Int64 := lN (s + 16 * a + 1048576 * b + 68719476736 * l)
theorem mpk_eq {s a b l : Nat} (hs : s < 16) (ha : a < 65536) (hb : b < 65536) (hl : l < 65536) : ((((i32 s).toInt64 ||| ((i32 a).toInt64 <<< ((4 : Int32).toInt64 &&& 63))) ||| ((i32 b).toInt64 <<< ((20 : Int32).toInt64 &&& 63))) ||| ((i32 l).toInt64 <<< ((36 : Int32).toInt64 &&& 63))) = pk s a b l := by
  have e : ∀ n, n < 65536 → (i32 n).toInt64 = lN n := fun n hn => nI_l (by omega)
  have e1 := wb_shl a (show 4 < 64 by decide)
  have e2 := wb_shl b (show 20 < 64 by decide)
  have e3 := wb_shl l (show 36 < 64 by decide)
  rw [e s (by omega), e a ha, e b hb, e l hl]
  rw [show ((4 : Int32).toInt64 &&& 63) = ((nI 4).toInt64 &&& 63) from rfl, show ((20 : Int32).toInt64 &&& 63) = ((nI 20).toInt64 &&& 63) from rfl, show ((36 : Int32).toInt64 &&& 63) = ((nI 36).toInt64 &&& 63) from rfl, e1, e2, e3]
  have f1 : s ||| a * 2 ^ 4 = s + 16 * a := by
    have := Nat.two_pow_add_eq_or_of_lt (i := 4) (b := s) (by omega) a
    rw [Nat.or_comm, Nat.mul_comm, ← this]; omega
  have f2 : (s + 16 * a) ||| b * 2 ^ 20 = s + 16 * a + 1048576 * b := by
    have := Nat.two_pow_add_eq_or_of_lt (i := 20) (b := s + 16 * a) (by omega) b
    rw [Nat.or_comm, Nat.mul_comm, ← this]; omega
  have f3 : (s + 16 * a + 1048576 * b) ||| l * 2 ^ 36 = s + 16 * a + 1048576 * b + 68719476736 * l := by
    have := Nat.two_pow_add_eq_or_of_lt (i := 36) (b := s + 16 * a + 1048576 * b) (by omega) l
    rw [Nat.or_comm, Nat.mul_comm, ← this]; omega
  rw [wb_or (by omega) (by omega), f1, wb_or (by omega) (by omega), f2, wb_or (by omega) (by omega), f3]
  rfl
theorem l2i (n : Nat) : (lN n).toInt32 = i32 n := Int64.toInt32_ofNat'
theorem m_sortOf {σ : MS} {v s a b l : Nat} (hv : v < 2400) (h : σ.2.2 v = pk s a b l) (hs : s < 16) (ha : a < 65536) (hb : b < 65536) (hl : l < 65536) : f_sortOf (i32 v) σ = some (i32 s, σ) := by
  unfold f_sortOf
  simp (disch := omega) only [z0, z1, z2, z3, z4, z5, z6, z7, z8, z9, z10, z13, z15, z20, z32, z33, z40, z42, z44, z46, z48, z49, z50, z51, z57, z58, z60, z62, z65, z67, z80, z83, z92, z97, z100, z102, z255, z357, z612, z969, z1326, z1734, z10000, z_add, z_mul, z_sub, z_ltT, z_ltF, z_leT, z_leF, z_eqT, z_eqF, z_nn, z_ixT, z_ixF, if_true, if_false, Option.bind_some, al1, al2, al3, al4, al5, al6, al7, al8, al9, al10, al11, al12, al13, al14, al15, al16, al17, al18, al19, al20, al21, al22, al23, al24, al25, al26, al27, al28, al29, al30, al31, al32, al33, h]
  have e : (pk s a b l &&& (15 : Int64)) = lN s := by
    have := wb_mask (n := s + 16 * a + 1048576 * b + 68719476736 * l) (k := 4) (by omega) (by decide)
    unfold pk
    rw [show (15 : Int64) = lN (2 ^ 4 - 1) from rfl, this]
    congr 1
    omega
  rw [e, l2i]
theorem m_aOf {σ : MS} {v s a b l : Nat} (hv : v < 2400) (h : σ.2.2 v = pk s a b l) (hs : s < 16) (ha : a < 65536) (hb : b < 65536) (hl : l < 65536) : f_aOf (i32 v) σ = some (i32 a, σ) := by
  unfold f_aOf
  rw [show ((4 : Int32).toInt64 &&& 63) = ((nI 4).toInt64 &&& 63) from rfl]
  simp (disch := omega) only [z_nn, z_ixT, al1, al2, al3, al4, al5, al6, al7, al8, al9, al10, al11, al12, al13, al14, al15, al16, al17, al18, al19, al20, al21, al22, al23, al24, al25, al26, al27, al28, al29, al30, al31, al32, al33, if_true, h]
  have e : ((pk s a b l >>> ((nI 4).toInt64 &&& 63)) &&& (65535 : Int64)) = lN a := by
    unfold pk
    rw [pf_shr (d := 4) (by decide) (by omega)]
    have := wb_mask (n := (s + 16 * a + 1048576 * b + 68719476736 * l) / 2 ^ 4) (k := 16) (by omega) (by decide)
    rw [show (65535 : Int64) = lN (2 ^ 16 - 1) from rfl, this]
    congr 1
    omega
  rw [e, l2i]
theorem m_bOf {σ : MS} {v s a b l : Nat} (hv : v < 2400) (h : σ.2.2 v = pk s a b l) (hs : s < 16) (ha : a < 65536) (hb : b < 65536) (hl : l < 65536) : f_bOf (i32 v) σ = some (i32 b, σ) := by
  unfold f_bOf
  rw [show ((20 : Int32).toInt64 &&& 63) = ((nI 20).toInt64 &&& 63) from rfl]
  simp (disch := omega) only [z_nn, z_ixT, al1, al2, al3, al4, al5, al6, al7, al8, al9, al10, al11, al12, al13, al14, al15, al16, al17, al18, al19, al20, al21, al22, al23, al24, al25, al26, al27, al28, al29, al30, al31, al32, al33, if_true, h]
  have e : ((pk s a b l >>> ((nI 20).toInt64 &&& 63)) &&& (65535 : Int64)) = lN b := by
    unfold pk
    rw [pf_shr (d := 20) (by decide) (by omega)]
    have := wb_mask (n := (s + 16 * a + 1048576 * b + 68719476736 * l) / 2 ^ 20) (k := 16) (by omega) (by decide)
    rw [show (65535 : Int64) = lN (2 ^ 16 - 1) from rfl, this]
    congr 1
    omega
  rw [e, l2i]
theorem m_levelOf {σ : MS} {v s a b l : Nat} (hv : v < 2400) (h : σ.2.2 v = pk s a b l) (hs : s < 16) (ha : a < 65536) (hb : b < 65536) (hl : l < 65536) : f_levelOf (i32 v) σ = some (i32 l, σ) := by
  unfold f_levelOf
  rw [show ((36 : Int32).toInt64 &&& 63) = ((nI 36).toInt64 &&& 63) from rfl]
  simp (disch := omega) only [z_nn, z_ixT, al1, al2, al3, al4, al5, al6, al7, al8, al9, al10, al11, al12, al13, al14, al15, al16, al17, al18, al19, al20, al21, al22, al23, al24, al25, al26, al27, al28, al29, al30, al31, al32, al33, if_true, h]
  have e : (pk s a b l >>> ((nI 36).toInt64 &&& 63)) = lN l := by
    unfold pk
    rw [pf_shr (d := 36) (by decide) (by omega)]
    congr 1
    omega
  rw [e, l2i]
/-- a value laid -/
def lay (σ : MS) (V : Nat) (w : Int64) : MS := setF (setL σ V w) 19 (i32 (V + 1))
theorem m_lays {σ : MS} {V s a b l : Nat} (hV : σ.1 19 = i32 V) (hv : V < 2400) (hs : s < 16) (ha : a < 65536) (hb : b < 65536) (hl : l < 65536) : f_lays (i32 s) (i32 a) (i32 b) (i32 l) σ = some (i32 V, lay σ V (pk s a b l)) := by
  unfold f_lays
  rw [mpk_eq hs ha hb hl]
  have e : ∀ (w : Int64) (k : Nat), (setF (setL σ k w) 19 ((setL σ k w).1 19 + 1)).1 19 = σ.1 19 + 1 := fun w k => by simp [setF, setL, upd]
  have e2 : ∀ (w : Int64) (k : Nat), (setL σ k w).1 19 = σ.1 19 := fun w k => rfl
  rw [e]
  simp only [e2, hV]
  simp (disch := omega) only [z0, z1, z2, z3, z4, z5, z6, z7, z8, z9, z10, z13, z15, z20, z32, z33, z40, z42, z44, z46, z48, z49, z50, z51, z57, z58, z60, z62, z65, z67, z80, z83, z92, z97, z100, z102, z255, z357, z612, z969, z1326, z1734, z10000, z_add, z_mul, z_sub, z_ltT, z_ltF, z_leT, z_leF, z_eqT, z_eqF, z_nn, z_ixT, z_ixF, if_true, if_false, Option.bind_some, al1, al2, al3, al4, al5, al6, al7, al8, al9, al10, al11, al12, al13, al14, al15, al16, al17, al18, al19, al20, al21, al22, al23, al24, al25, al26, al27, al28, al29, al30, al31, al32, al33, show V + 1 - 1 = V by omega]
  rfl
/-- a sign put -/
def pt (σ : MS) (T : Nat) (c : Int32) : MS := setF (setA σ 1 T c) 1 (i32 (T + 1))
theorem m_puts {σ : MS} {T : Nat} (c : Int32) (hT : σ.1 1 = i32 T) (ht : T < 9400) : f_puts c σ = some (0, pt σ T c) := by
  unfold f_puts
  have e2 : ∀ (k : Nat), (setA σ 1 k c).1 1 = σ.1 1 := fun k => rfl
  simp only [e2, hT]
  simp (disch := omega) only [z_nn, z_ixT, al1, al2, al3, al4, al5, al6, al7, al8, al9, al10, al11, al12, al13, al14, al15, al16, al17, al18, al19, al20, al21, al22, al23, al24, al25, al26, al27, al28, al29, al30, al31, al32, al33, if_true, z1, z_add]
  rfl
/-- a form copied to the top -/
def cm (σ : MS) (p T n : Nat) : MS := setF (brg σ 1 p 1 T n) 1 (i32 (T + n))
theorem setF_id (σ : MS) {k : Nat} {x : Int32} (h : σ.1 k = x) : setF σ k x = σ := by
  unfold setF
  refine Prod.ext ?_ rfl
  funext j
  simp only [upd]
  split
  · rename_i e; rw [e, h]
  · rfl
theorem setF_setF (σ : MS) (k : Nat) (x y : Int32) : setF (setF σ k x) k y = setF σ k y := by
  unfold setF
  refine Prod.ext ?_ rfl
  funext j
  simp only [upd]
  split <;> rfl
theorem cm_succ (σ : MS) {p T k : Nat} (h : p + k < T) : pt (cm σ p T k) (T + k) ((cm σ p T k).2.1 1 (p + k)) = cm σ p T (k + 1) := by
  unfold pt cm
  rw [show (setF (brg σ 1 p 1 T k) 1 (i32 (T + k))).2.1 1 (p + k) = (brg σ 1 p 1 T k).2.1 1 (p + k) from rfl]
  rw [show setA (setF (brg σ 1 p 1 T k) 1 (i32 (T + k))) 1 (T + k) ((brg σ 1 p 1 T k).2.1 1 (p + k)) = setF (setA (brg σ 1 p 1 T k) 1 (T + k) ((brg σ 1 p 1 T k).2.1 1 (p + k))) 1 (i32 (T + k)) from rfl]
  rw [setF_setF, brg_succ σ (by omega)]
  rfl
theorem m_putsForm_l (σ : MS) {p T n : Nat} (h : p + n ≤ T) (hT : T + n ≤ 9400) : ∀ (d F k : Nat), k + d = n → d < F → L_putsForm_8 F (i32 p) (i32 n) (i32 k) (cm σ p T k) = some (0, cm σ p T n) := by
  intro d
  induction d with
  | zero =>
    intro F k hk hF
    obtain ⟨F, rfl⟩ : ∃ F', F = F' + 1 := ⟨F - 1, by omega⟩
    obtain rfl : k = n := by omega
    simp (disch := omega) only [L_putsForm_8, z0, z1, z2, z3, z4, z5, z6, z7, z8, z9, z10, z13, z15, z20, z32, z33, z40, z42, z44, z46, z48, z49, z50, z51, z57, z58, z60, z62, z65, z67, z80, z83, z92, z97, z100, z102, z255, z357, z612, z969, z1326, z1734, z10000, z_add, z_mul, z_sub, z_ltT, z_ltF, z_leT, z_leF, z_eqT, z_eqF, z_nn, z_ixT, z_ixF, if_true, if_false, Option.bind_some]
  | succ d ih =>
    intro F k hk hF
    obtain ⟨F, rfl⟩ : ∃ F', F = F' + 1 := ⟨F - 1, by omega⟩
    have := ih F (k + 1) (by omega) (by omega)
    have e : (cm σ p T k).1 1 = i32 (T + k) := by simp [cm, setF, upd]
    rw [L_putsForm_8]
    simp (disch := omega) only [z_leF, z_add, z_ixT, z_nn, al1, al2, al3, al4, al5, al6, al7, al8, al9, al10, al11, al12, al13, al14, al15, al16, al17, al18, al19, al20, al21, al22, al23, al24, al25, al26, al27, al28, al29, al30, al31, al32, al33, if_true, if_false, m_puts _ e (show T + k < 9400 by omega), Option.bind_some, z1]
    rw [cm_succ σ (by omega)]
    exact this
theorem m_putsForm {σ : MS} {t : Tr} {p T : Nat} (hp : pr (fxM σ) t) (hf : fm (σ.2.1 1) t p) (h : p + ln t ≤ T) (hT : T + ln t ≤ 9400) (ht : σ.1 1 = i32 T) : f_putsForm (i32 p) σ = some (0, cm σ p T (ln t)) := by
  unfold f_putsForm
  rw [m_longOf hp hf (by omega)]
  rw [Option.bind_some]
  have := m_putsForm_l σ h hT (ln t) 10000 0 (by omega) (by omega)
  rw [show cm σ p T 0 = σ by unfold cm; rw [brg_0, Nat.add_zero, setF_id σ ht]] at this
  rw [z0] at *
  exact this
theorem m_toSlot_l (σ : MS) {i j n : Nat} (hi : i + n ≤ 9400) (hj : j + n ≤ 9400) (ho : j ≤ i ∨ i + n ≤ j) : ∀ (d F k : Nat), k + d = n → d < F → L_toSlot_9 F (i32 i) (i32 j) (i32 n) (i32 k) (brg σ 1 i 1 j k) = some (0, brg σ 1 i 1 j n) := by
  intro d
  induction d with
  | zero =>
    intro F k hk hF
    obtain ⟨F, rfl⟩ : ∃ F', F = F' + 1 := ⟨F - 1, by omega⟩
    obtain rfl : k = n := by omega
    simp (disch := omega) only [L_toSlot_9, z0, z1, z2, z3, z4, z5, z6, z7, z8, z9, z10, z13, z15, z20, z32, z33, z40, z42, z44, z46, z48, z49, z50, z51, z57, z58, z60, z62, z65, z67, z80, z83, z92, z97, z100, z102, z255, z357, z612, z969, z1326, z1734, z10000, z_add, z_mul, z_sub, z_ltT, z_ltF, z_leT, z_leF, z_eqT, z_eqF, z_nn, z_ixT, z_ixF, if_true, if_false, Option.bind_some]
  | succ d ih =>
    intro F k hk hF
    obtain ⟨F, rfl⟩ : ∃ F', F = F' + 1 := ⟨F - 1, by omega⟩
    have := ih F (k + 1) (by omega) (by omega)
    simp (disch := omega) only [L_toSlot_9, z0, z1, z2, z3, z4, z5, z6, z7, z8, z9, z10, z13, z15, z20, z32, z33, z40, z42, z44, z46, z48, z49, z50, z51, z57, z58, z60, z62, z65, z67, z80, z83, z92, z97, z100, z102, z255, z357, z612, z969, z1326, z1734, z10000, z_add, z_mul, z_sub, z_ltT, z_ltF, z_leT, z_leF, z_eqT, z_eqF, z_nn, z_ixT, z_ixF, if_true, if_false, Option.bind_some, al1, al2, al3, al4, al5, al6, al7, al8, al9, al10, al11, al12, al13, al14, al15, al16, al17, al18, al19, al20, al21, al22, al23, al24, al25, al26, al27, al28, al29, al30, al31, al32, al33] at this ⊢
    rw [brg_succ σ (by omega)]
    exact this
theorem m_toSlot {σ : MS} {t : Tr} {p j : Nat} (hp : pr (fxM σ) t) (hf : fm (σ.2.1 1) t p) (hi : p + ln t ≤ 9400) (hj : j + ln t ≤ 9400) (ho : j ≤ p ∨ p + ln t ≤ j) : f_toSlot (i32 p) (i32 j) σ = some (0, brg σ 1 p 1 j (ln t)) := by
  unfold f_toSlot
  rw [m_longOf hp hf hi]
  rw [Option.bind_some]
  have := m_toSlot_l σ hi hj ho (ln t) 10000 0 (by omega) (by omega)
  rw [brg_0] at this
  rw [z0] at *
  exact this
theorem pr_lt {f : Nat → Bool} : ∀ (t : Tr), pr f t → ∀ x ∈ enc t, x < 128 := by
  intro t
  induction t with
  | leaf s =>
    intro h x hx
    rw [enc, if_neg h.1] at hx
    simp at hx
    rw [hx]; exact h.2.1
  | branch s a b iha ihb =>
    intro h x hx
    rw [enc] at hx
    simp only [List.mem_cons, List.mem_append] at hx
    rcases hx with rfl | hx | hx
    · exact h.2.1
    · rcases h.2.2 with h | h
      · exact iha h.2.1 x hx
      · exact iha h.2.1 x hx
    · rcases h.2.2 with h | h
      · exact ihb h.2.2 x hx
      · rw [h.2.2] at hx; simp [enc] at hx
theorem gD_lt {l : List Nat} (h : ∀ x ∈ l, x < 128) (k : Nat) : l.getD k 0 < 128 := by
  rw [List.getD_eq_getElem?_getD]
  by_cases hk : k < l.length
  · rw [List.getElem?_eq_getElem hk]; exact h _ (List.getElem_mem hk)
  · rw [List.getElem?_eq_none (by omega)]; exact Nat.zero_lt_succ _
theorem drop_gD {l : List Nat} {k : Nat} (h : k < l.length) : l.drop k = l.getD k 0 :: l.drop (k + 1) := by
  rw [List.drop_eq_getElem_cons h, List.getD_eq_getElem?_getD, List.getElem?_eq_getElem h]; rfl
theorem m_isSame_l {σ : MS} {l r : List Nat} {p q n : Nat} (hl : l.length = n) (hr : r.length = n) (hp : ∀ k, k < n → σ.2.1 1 (p + k) = i32 (l.getD k 0)) (hq : ∀ k, k < n → σ.2.1 1 (q + k) = i32 (r.getD k 0)) (h1 : p + n ≤ 9400) (h2 : q + n ≤ 9400) (h3 : ∀ x ∈ l, x < 128) (h4 : ∀ x ∈ r, x < 128) : ∀ (d F k : Nat), k + d = n → d < F → L_isSame_25 F (i32 p) (i32 q) (i32 n) (i32 1) (i32 k) σ = some (if l.drop k = r.drop k then i32 1 else i32 0, σ) := by
  intro d
  induction d with
  | zero =>
    intro F k hk hF
    obtain ⟨F, rfl⟩ : ∃ F', F = F' + 1 := ⟨F - 1, by omega⟩
    obtain rfl : k = n := by omega
    rw [List.drop_eq_nil_of_le (by omega), List.drop_eq_nil_of_le (by omega), if_pos rfl]
    simp (disch := omega) only [L_isSame_25, z0, z1, z2, z3, z4, z5, z6, z7, z8, z9, z10, z13, z15, z20, z32, z33, z40, z42, z44, z46, z48, z49, z50, z51, z57, z58, z60, z62, z65, z67, z80, z83, z92, z97, z100, z102, z255, z357, z612, z969, z1326, z1734, z10000, z_add, z_mul, z_sub, z_ltT, z_ltF, z_leT, z_leF, z_eqT, z_eqF, z_nn, z_ixT, z_ixF, if_true, if_false, Option.bind_some, B_isSame_70]
    rfl
  | succ d ih =>
    intro F k hk hF
    obtain ⟨F, rfl⟩ : ∃ F', F = F' + 1 := ⟨F - 1, by omega⟩
    have ihk := ih F (k + 1) (by omega) (by omega)
    have a1 := gD_lt h3 k
    have a2 := gD_lt h4 k
    rw [L_isSame_25]
    simp (disch := omega) only [z_leF, z_add, z_ixT, z_nn, al1, al2, al3, al4, al5, al6, al7, al8, al9, al10, al11, al12, al13, al14, al15, al16, al17, al18, al19, al20, al21, al22, al23, al24, al25, al26, al27, al28, al29, al30, al31, al32, al33, if_true, if_false, z0, z_eqF, hp k (by omega), hq k (by omega), B_isSame_62]
    rw [drop_gD (show k < l.length by omega), drop_gD (show k < r.length by omega)]
    by_cases hc : l.getD k 0 = r.getD k 0
    · simp (disch := omega) only [hc, if_true, z1, z_add, ihk, List.cons.injEq, true_and]
    · obtain ⟨F, rfl⟩ : ∃ F', F = F' + 1 := ⟨F - 1, by omega⟩
      simp (disch := omega) only [z_eqF, if_false, z1, z_add, List.cons.injEq, hc, false_and]
      rw [L_isSame_25]
      by_cases hn : k + 1 < n
      · simp (disch := omega) only [z0, z1, z2, z3, z4, z5, z6, z7, z8, z9, z10, z13, z15, z20, z32, z33, z40, z42, z44, z46, z48, z49, z50, z51, z57, z58, z60, z62, z65, z67, z80, z83, z92, z97, z100, z102, z255, z357, z612, z969, z1326, z1734, z10000, z_add, z_mul, z_sub, z_ltT, z_ltF, z_leT, z_leF, z_eqT, z_eqF, z_nn, z_ixT, z_ixF, if_true, if_false, Option.bind_some, B_isSame_70]
        rfl
      · simp (disch := omega) only [z0, z1, z2, z3, z4, z5, z6, z7, z8, z9, z10, z13, z15, z20, z32, z33, z40, z42, z44, z46, z48, z49, z50, z51, z57, z58, z60, z62, z65, z67, z80, z83, z92, z97, z100, z102, z255, z357, z612, z969, z1326, z1734, z10000, z_add, z_mul, z_sub, z_ltT, z_ltF, z_leT, z_leF, z_eqT, z_eqF, z_nn, z_ixT, z_ixF, if_true, if_false, Option.bind_some, B_isSame_70]
        rfl
theorem m_isSame {σ : MS} {t u : Tr} {p q : Nat} (hp : pr (fxM σ) t) (hq : pr (fxM σ) u) (hf : fm (σ.2.1 1) t p) (hg : fm (σ.2.1 1) u q) (h1 : p + ln t ≤ 9400) (h2 : q + ln u ≤ 9400) : f_isSame (i32 p) (i32 q) σ = some (if enc t = enc u then i32 1 else i32 0, σ) := by
  unfold f_isSame
  rw [m_longOf hp hf h1]
  simp only [Option.bind_some]
  rw [m_longOf hq hg h2]
  simp only [Option.bind_some]
  by_cases hc : ln t = ln u
  · have := m_isSame_l (l := enc t) (r := enc u) (p := p) (q := q) (n := ln t) (σ := σ) rfl hc.symm ((fm_iff t p).mp hf) (fun k hk => (fm_iff u q).mp hg k (by omega)) h1 (by omega) (pr_lt t hp) (pr_lt u hq) (ln t) 10000 0 (by omega) (by omega)
    simp (disch := omega) only [z_eqT, if_true, B_isSame_20, z0, z1]
    simpa only [List.drop_zero] using this
  · simp (disch := omega) only [z_eqF, if_false, B_isSame_20]
    rw [if_neg (fun h => hc (by unfold ln; rw [h])), show (10000 : Nat) = 9999 + 1 from rfl, L_isSame_25]
    by_cases hn : ln t = 0
    · simp (disch := omega) only [z0, z1, z2, z3, z4, z5, z6, z7, z8, z9, z10, z13, z15, z20, z32, z33, z40, z42, z44, z46, z48, z49, z50, z51, z57, z58, z60, z62, z65, z67, z80, z83, z92, z97, z100, z102, z255, z357, z612, z969, z1326, z1734, z10000, z_add, z_mul, z_sub, z_ltT, z_ltF, z_leT, z_leF, z_eqT, z_eqF, z_nn, z_ixT, z_ixF, if_true, if_false, Option.bind_some, B_isSame_70]
      rfl
    · simp (disch := omega) only [z0, z1, z2, z3, z4, z5, z6, z7, z8, z9, z10, z13, z15, z20, z32, z33, z40, z42, z44, z46, z48, z49, z50, z51, z57, z58, z60, z62, z65, z67, z80, z83, z92, z97, z100, z102, z255, z357, z612, z969, z1326, z1734, z10000, z_add, z_mul, z_sub, z_ltT, z_ltF, z_leT, z_leF, z_eqT, z_eqF, z_nn, z_ixT, z_ixF, if_true, if_false, Option.bind_some, B_isSame_70]
      rfl
end MVAL

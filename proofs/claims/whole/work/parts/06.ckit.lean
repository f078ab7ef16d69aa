/-- the class's state: numbers and references by cell and slot, kinds and lengths of the cells made later, how many they are -/
abbrev CS : Type := (Nat → Nat → Int32) × (Nat → Nat → Option Nat) × (Nat → Nat) × (Nat → Nat) × Nat
abbrev ndC (σ : CS) : Nat := σ.2.2.2.2
def kS : Nat → Nat
  | 0 => 10
  | 1 => 12
  | 2 => 3
  | 3 => 16
  | 4 => 16
  | 5 => 5
  | 6 => 15
  | 7 => 2
  | 8 => 17
  | 9 => 5
  | 10 => 15
  | 11 => 5
  | 12 => 15
  | 13 => 5
  | 14 => 15
  | 15 => 5
  | 16 => 15
  | 17 => 5
  | 18 => 15
  | 19 => 5
  | 20 => 15
  | 21 => 5
  | 22 => 15
  | 23 => 5
  | 24 => 15
  | 25 => 6
  | 26 => 15
  | 27 => 12
  | 28 => 17
  | 29 => 14
  | 30 => 5
  | 31 => 15
  | 32 => 5
  | 33 => 15
  | 34 => 7
  | 35 => 12
  | 36 => 12
  | 37 => 12
  | 38 => 8
  | 39 => 12
  | 40 => 12
  | 41 => 12
  | 42 => 12
  | 43 => 4
  | 44 => 9
  | 45 => 12
  | 46 => 12
  | 47 => 5
  | 48 => 15
  | _ => 0
def lS : Nat → Nat
  | 1 => 32
  | 3 => 3
  | 4 => 4
  | 6 => 6
  | 8 => 8
  | 10 => 6
  | 12 => 6
  | 14 => 6
  | 16 => 6
  | 18 => 6
  | 20 => 6
  | 22 => 6
  | 24 => 6
  | 26 => 4
  | 27 => 4
  | 28 => 2
  | 29 => 2
  | 31 => 6
  | 33 => 6
  | 35 => 3600
  | 36 => 3
  | 37 => 4
  | 39 => 3072
  | 40 => 3072
  | 41 => 3072
  | 42 => 10
  | 45 => 11
  | 46 => 0
  | 48 => 6
  | _ => 0
def srf : Nat → Nat → Nat
  | 0, 0 => 1
  | 0, 3 => 5
  | 0, 4 => 7
  | 0, 5 => 25
  | 0, 6 => 28
  | 0, 7 => 29
  | 0, 8 => 43
  | 2, 0 => 3
  | 2, 1 => 4
  | 5, 0 => 6
  | 7, 0 => 8
  | 8, 0 => 9
  | 8, 1 => 11
  | 8, 2 => 13
  | 8, 3 => 15
  | 8, 4 => 17
  | 8, 5 => 19
  | 8, 6 => 21
  | 8, 7 => 23
  | 9, 0 => 10
  | 11, 0 => 12
  | 13, 0 => 14
  | 15, 0 => 16
  | 17, 0 => 18
  | 19, 0 => 20
  | 21, 0 => 22
  | 23, 0 => 24
  | 25, 0 => 26
  | 25, 1 => 27
  | 28, 0 => 30
  | 28, 1 => 32
  | 30, 0 => 31
  | 32, 0 => 33
  | 34, 0 => 35
  | 34, 2 => 36
  | 34, 4 => 37
  | 38, 0 => 34
  | 38, 1 => 39
  | 38, 2 => 40
  | 38, 3 => 41
  | 38, 5 => 42
  | 43, 0 => 34
  | 43, 1 => 38
  | 43, 2 => 44
  | 43, 3 => 45
  | 44, 0 => 34
  | 44, 1 => 38
  | 47, 0 => 48
  | _, _ => 0
def nfl : Nat → Nat
  | 0 => 2
  | 1 => 1
  | 2 => 3
  | 3 => 4
  | 4 => 15
  | 5 => 2
  | 6 => 3
  | 7 => 6
  | 8 => 7
  | 9 => 4
  | 10 => 9
  | _ => 0
def isR : Nat → Nat → Bool
  | 0, 0 => true
  | 0, 1 => true
  | 1, 0 => true
  | 2, 0 => true
  | 3, 0 => true
  | 3, 1 => true
  | 4, 0 => true
  | 4, 1 => true
  | 4, 2 => true
  | 4, 3 => true
  | 4, 4 => true
  | 4, 6 => true
  | 5, 0 => true
  | 6, 0 => true
  | 6, 1 => true
  | 7, 0 => true
  | 7, 2 => true
  | 7, 4 => true
  | 8, 0 => true
  | 8, 1 => true
  | 8, 2 => true
  | 8, 3 => true
  | 8, 5 => true
  | 9, 0 => true
  | 9, 1 => true
  | 10, 0 => true
  | 10, 2 => true
  | 10, 3 => true
  | 10, 4 => true
  | 10, 5 => true
  | 10, 6 => true
  | 10, 7 => true
  | 10, 8 => true
  | _, _ => false
def knd (σ : CS) (j : Nat) : Nat := if j < 49 then kS j else σ.2.2.1 j
def lnC (σ : CS) (j : Nat) : Nat := if j < 49 then lS j else σ.2.2.2.1 j
def rfv (σ : CS) (j k : Nat) : Option Nat := if srf j k = 0 then σ.2.1 j k else some (srf j k)
def fvC (ad : Nat → Nat) (σ : CS) (j ci k : Nat) : Value := if isR ci k = true then va_rf ((rfv σ j k).map ad) else .int (σ.1 j k)
def cellC (cy : Nat → ClassId) (ad : Nat → Nat) (σ : CS) (j : Nat) : va_E :=
  if knd σ j < 11 then .inr (knd σ j, (List.range (nfl (knd σ j))).map (fvC ad σ j (knd σ j)))
  else if knd σ j = 12 then .inl (cy 0, lnC σ j, .inl (σ.1 j))
  else if knd σ j = 14 then .inl (cy 2, lnC σ j, .inl (σ.1 j))
  else .inl (cy (knd σ j - 12), lnC σ j, .inr (.inr (.inr (.inr (fun i => (rfv σ j i).map ad)))))
def wc (cy : Nat → ClassId) (ad : Nat → Nat) (σ : CS) : va_W := (List.range (49 + ndC σ)).map (fun j => (ad j, cellC cy ad σ j))
def inC (ad : Nat → Nat) : Nat → Prop := fun q => (∃ j, j < 49 ∧ q = ad j) ∨ ad 49 ≤ q
/-- the addresses: all apart, those of later cells one behind the other -/
def adOK (ad : Nat → Nat) : Prop := (∀ i j, ad i = ad j → i = j) ∧ ∀ i, ad (49 + i) = ad 49 + i
/-- a cell of a kind -/
def okc (σ : CS) (j K : Nat) : Bool := decide (j < 49 + ndC σ) && (knd σ j == K)
theorem okc_lt {σ : CS} {j K : Nat} (h : okc σ j K = true) : j < 49 + ndC σ := by
  simp only [okc, Bool.and_eq_true, decide_eq_true_eq] at h; exact h.1
theorem okc_k {σ : CS} {j K : Nat} (h : okc σ j K = true) : knd σ j = K := by
  simp only [okc, Bool.and_eq_true, decide_eq_true_eq, beq_iff_eq] at h; exact h.2
theorem okS (σ : CS) (j : Nat) {K : Nat} (h : j < 49) (hk : kS j = K) : okc σ j K = true := by
  simp only [okc, Bool.and_eq_true, decide_eq_true_eq, beq_iff_eq, knd, if_pos h]
  exact ⟨by omega, hk⟩
def sI (σ : CS) (j k : Nat) (x : Int32) : CS := ((fun a => if a = j then upd (σ.1 j) k x else σ.1 a), σ.2)
def sR (σ : CS) (j k : Nat) (r : Option Nat) : CS := (σ.1, (fun a => if a = j then va_up (σ.2.1 j) k r else σ.2.1 a), σ.2.2)
theorem wc_at (cy : Nat → ClassId) (ad : Nat → Nat) (σ : CS) {j : Nat} (hj : j < 49 + ndC σ) : (wc cy ad σ)[j]? = some (ad j, cellC cy ad σ j) := by
  simp [wc, List.getElem?_map, List.getElem?_range hj]
theorem wc_len (cy : Nat → ClassId) (ad : Nat → Nat) (σ : CS) {k : Nat} {q : Nat × va_E} (h : (wc cy ad σ)[k]? = some q) : k < 49 + ndC σ ∧ q.1 = ad k := by
  have hk : k < 49 + ndC σ := by
    have := (List.getElem?_eq_some_iff.mp h).1
    simpa [wc] using this
  rw [wc_at cy ad σ hk] at h
  exact ⟨hk, by rw [← Option.some.inj h]⟩
theorem wc_D {ad : Nat → Nat} (h : adOK ad) (cy : Nat → ClassId) (σ : CS) : va_D (inC ad) (wc cy ad σ) := by
  refine ⟨fun i j p q hp hq e => ?_, fun k q hq => ?_⟩
  · obtain ⟨a1, a2⟩ := wc_len cy ad σ hp
    obtain ⟨b1, b2⟩ := wc_len cy ad σ hq
    exact h.1 i j (by rw [← a2, ← b2]; exact e)
  · obtain ⟨a1, a2⟩ := wc_len cy ad σ hq
    rw [a2]
    by_cases hk : k < 49
    · exact Or.inl ⟨k, hk, rfl⟩
    · refine Or.inr ?_
      have := h.2 (k - 49)
      rw [show 49 + (k - 49) = k by omega] at this
      omega
theorem wc_obj (cy : Nat → ClassId) (ad : Nat → Nat) (σ : CS) {j ci : Nat} (h : okc σ j ci = true) (hc : ci < 11) : (wc cy ad σ)[j]? = some (ad j, .inr (ci, (List.range (nfl ci)).map (fvC ad σ j ci))) := by
  rw [wc_at cy ad σ (okc_lt h)]
  simp [cellC, okc_k h, hc]
theorem wc_int (cy : Nat → ClassId) (ad : Nat → Nat) (σ : CS) {j : Nat} (h : okc σ j 12 = true) : (wc cy ad σ)[j]? = some (ad j, .inl (cy 0, lnC σ j, .inl (σ.1 j))) := by
  rw [wc_at cy ad σ (okc_lt h)]
  simp [cellC, okc_k h]
theorem wc_boo (cy : Nat → ClassId) (ad : Nat → Nat) (σ : CS) {j : Nat} (h : okc σ j 14 = true) : (wc cy ad σ)[j]? = some (ad j, .inl (cy 2, lnC σ j, .inl (σ.1 j))) := by
  rw [wc_at cy ad σ (okc_lt h)]
  simp [cellC, okc_k h]
theorem wc_rfs (cy : Nat → ClassId) (ad : Nat → Nat) (σ : CS) {j K : Nat} (h : okc σ j K = true) (hK : 14 < K) : (wc cy ad σ)[j]? = some (ad j, .inl (cy (K - 12), lnC σ j, .inr (.inr (.inr (.inr (fun i => (rfv σ j i).map ad)))))) := by
  rw [wc_at cy ad σ (okc_lt h)]
  have h1 : ¬ K < 11 := by omega
  have h2 : ¬ K = 12 := by omega
  have h3 : ¬ K = 14 := by omega
  simp [cellC, okc_k h, h1, h2, h3]
theorem wc_cong {cy : Nat → ClassId} {ad : Nat → Nat} {σ σ' : CS} (hn : ndC σ' = ndC σ) (j : Nat) (e : va_E) (he : cellC cy ad σ' j = e) (ho : ∀ i, i ≠ j → cellC cy ad σ' i = cellC cy ad σ i) : (wc cy ad σ).set j (ad j, e) = wc cy ad σ' := by
  unfold wc
  rw [range_set, hn]
  apply List.map_congr_left
  intro i _
  by_cases hi : i = j
  · subst hi; simp [he]
  · simp [hi, ho i hi]
theorem sI_cell {cy : Nat → ClassId} {ad : Nat → Nat} {σ : CS} {j k : Nat} {x : Int32} (i : Nat) (hi : i ≠ j) : cellC cy ad (sI σ j k x) i = cellC cy ad σ i := by
  have h1 : (sI σ j k x).1 i = σ.1 i := by simp [sI, hi]
  have h2 : ∀ ci, fvC ad (sI σ j k x) i ci = fvC ad σ i ci := fun ci => by
    funext q
    unfold fvC
    rw [h1]
    rfl
  have h3 : knd (sI σ j k x) i = knd σ i := rfl
  have h4 : lnC (sI σ j k x) i = lnC σ i := rfl
  have h5 : rfv (sI σ j k x) i = rfv σ i := rfl
  simp only [cellC, h1, h2, h3, h4, h5]
theorem sR_cell {cy : Nat → ClassId} {ad : Nat → Nat} {σ : CS} {j k : Nat} {r : Option Nat} (i : Nat) (hi : i ≠ j) : cellC cy ad (sR σ j k r) i = cellC cy ad σ i := by
  have h5 : rfv (sR σ j k r) i = rfv σ i := by
    funext q
    simp [rfv, sR, hi]
  have h2 : ∀ ci, fvC ad (sR σ j k r) i ci = fvC ad σ i ci := fun ci => by
    funext q
    unfold fvC
    rw [h5]
    rfl
  have h3 : knd (sR σ j k r) i = knd σ i := rfl
  have h4 : lnC (sR σ j k r) i = lnC σ i := rfl
  simp only [cellC, h2, h3, h4, h5]
  rfl
theorem wc_sI (cy : Nat → ClassId) (ad : Nat → Nat) (σ : CS) {j ci k : Nat} (x : Int32) (h : okc σ j ci = true) (hc : ci < 11) (hr : isR ci k = false) : (wc cy ad σ).set j (ad j, .inr (ci, ((List.range (nfl ci)).map (fvC ad σ j ci)).set k (.int x))) = wc cy ad (sI σ j k x) := by
  refine wc_cong (σ := σ) (σ' := sI σ j k x) rfl j _ ?_ (fun i hi => sI_cell i hi)
  have h3 : knd (sI σ j k x) j = ci := okc_k h
  simp only [cellC, h3, hc, if_true]
  rw [range_set]
  congr 2
  apply List.map_congr_left
  intro i _
  by_cases hi : i = k
  · subst hi; simp [fvC, hr, sI, upd]
  · simp only [if_neg hi, fvC]
    rw [show (sI σ j k x).1 j i = σ.1 j i by simp [sI, upd, hi], show rfv (sI σ j k x) j i = rfv σ j i from rfl]
theorem wc_sA (cy : Nat → ClassId) (ad : Nat → Nat) (σ : CS) {j : Nat} (i : Nat) (x : Int32) (h : okc σ j 12 = true) : (wc cy ad σ).set j (ad j, .inl (cy 0, lnC σ j, .inl (upd (σ.1 j) i x))) = wc cy ad (sI σ j i x) := by
  refine wc_cong (σ := σ) (σ' := sI σ j i x) rfl j _ ?_ (fun i hi => sI_cell i hi)
  have h3 : knd (sI σ j i x) j = 12 := okc_k h
  have h4 : lnC (sI σ j i x) j = lnC σ j := rfl
  simp only [cellC, h3, h4]
  simp [sI]
theorem wc_sZ (cy : Nat → ClassId) (ad : Nat → Nat) (σ : CS) {j : Nat} (i : Nat) (x : Int32) (h : okc σ j 14 = true) : (wc cy ad σ).set j (ad j, .inl (cy 2, lnC σ j, .inl (upd (σ.1 j) i x))) = wc cy ad (sI σ j i x) := by
  refine wc_cong (σ := σ) (σ' := sI σ j i x) rfl j _ ?_ (fun i hi => sI_cell i hi)
  have h3 : knd (sI σ j i x) j = 14 := okc_k h
  have h4 : lnC (sI σ j i x) j = lnC σ j := rfl
  simp only [cellC, h3, h4]
  simp [sI]
theorem wc_sR (cy : Nat → ClassId) (ad : Nat → Nat) (σ : CS) {j ci k : Nat} (r : Option Nat) (h : okc σ j ci = true) (hc : ci < 11) (hr : isR ci k = true) (hs : srf j k = 0) : (wc cy ad σ).set j (ad j, .inr (ci, ((List.range (nfl ci)).map (fvC ad σ j ci)).set k (va_rf (r.map ad)))) = wc cy ad (sR σ j k r) := by
  refine wc_cong (σ := σ) (σ' := sR σ j k r) rfl j _ ?_ (fun i hi => sR_cell i hi)
  have h3 : knd (sR σ j k r) j = ci := okc_k h
  simp only [cellC, h3, hc, if_true]
  rw [range_set]
  congr 2
  apply List.map_congr_left
  intro i _
  by_cases hi : i = k
  · subst hi; simp [fvC, hr, rfv, hs, sR, va_up]
  · simp only [if_neg hi, fvC]
    rw [show rfv (sR σ j k r) j i = rfv σ j i by simp [rfv, sR, va_up, hi], show (sR σ j k r).1 j i = σ.1 j i from rfl]
theorem wc_sRA (cy : Nat → ClassId) (ad : Nat → Nat) (σ : CS) {j K : Nat} (i : Nat) (r : Option Nat) (h : okc σ j K = true) (hK : 14 < K) (hs : ∀ i, srf j i = 0) : (wc cy ad σ).set j (ad j, .inl (cy (K - 12), lnC σ j, .inr (.inr (.inr (.inr (va_up (fun i => (rfv σ j i).map ad) i (r.map ad))))))) = wc cy ad (sR σ j i r) := by
  refine wc_cong (σ := σ) (σ' := sR σ j i r) rfl j _ ?_ (fun i hi => sR_cell i hi)
  have h3 : knd (sR σ j i r) j = K := okc_k h
  have h4 : lnC (sR σ j i r) j = lnC σ j := rfl
  have h1 : ¬ K < 11 := by omega
  have h2 : ¬ K = 12 := by omega
  have h5 : ¬ K = 14 := by omega
  simp only [cellC, h3, h4, h1, h2, h5, if_false]
  congr 7
  funext q
  by_cases hq : q = i
  · subst hq; simp [rfv, hs, sR, va_up]
  · simp [rfv, hs, sR, va_up, hq]
theorem srf_E {σ : CS} {j : Nat} (h : okc σ j 15 = true) : ∀ i, srf j i = 0 := by
  intro i
  have hk := okc_k h
  unfold knd at hk
  by_cases hj : j < 49
  · rw [if_pos hj] at hk
    unfold srf
    split <;> first | rfl | (simp [kS] at hk; done)
  · unfold srf
    split <;> first | rfl | omega
theorem srf_F {σ : CS} {j : Nat} (h : okc σ j 16 = true) : ∀ i, srf j i = 0 := by
  intro i
  have hk := okc_k h
  unfold knd at hk
  by_cases hj : j < 49
  · rw [if_pos hj] at hk
    unfold srf
    split <;> first | rfl | (simp [kS] at hk; done)
  · unfold srf
    split <;> first | rfl | omega


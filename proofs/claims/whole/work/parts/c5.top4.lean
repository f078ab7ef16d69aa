section TOP4
abbrev Ens := List (Tr × Tr)
/-- what both sides keep between calls: text, laws, entries, sights, what the entries were, images -/
abbrev Sta := List Nat × Lw × Ens × List (Nat × (Tr × Tr)) × List Ens × (Option Ens × Option Ens)
abbrev Sta.tx (s : Sta) : List Nat := s.1
abbrev Sta.L (s : Sta) : Lw := s.2.1
abbrev Sta.en (s : Sta) : Ens := s.2.2.1
abbrev Sta.sg (s : Sta) : List (Nat × (Tr × Tr)) := s.2.2.2.1
abbrev Sta.un (s : Sta) : List Ens := s.2.2.2.2.1
abbrev Sta.im (s : Sta) : Option Ens × Option Ens := s.2.2.2.2.2
def ensOK (L : Lw) (l : Ens) : Prop := l.length ≤ 6 ∧ ∀ e ∈ l, entOK L e
def SOK (s : Sta) : Prop := s.tx.length ≤ 32 ∧ (∀ x ∈ s.tx, x < 256) ∧ lwOK s.L ∧ ensOK s.L s.en ∧ (s.sg.length ≤ 4 ∧ ∀ x ∈ s.sg, x.1 ≤ 2 ∧ entOK s.L x.2) ∧ (s.un.length ≤ 8 ∧ ∀ l ∈ s.un, ensOK s.L l) ∧ (∀ l, s.im.1 = some l → ensOK s.L l) ∧ (∀ l, s.im.2 = some l → ensOK s.L l)
theorem SOK_WL {s : Sta} (h : SOK s) : WL s.L s.en s.tx := ⟨h.2.2.1, h.2.2.2.1.2, h.2.2.2.1.1, h.1, h.2.1⟩
/-- entries stand in a row -/
def enAt (g : Nat → Int32) (b : Nat) (l : Ens) : Prop := ∀ (e : Nat) (x : Tr × Tr), l[e]? = some x → fm g x.1 (b + 102 * e) ∧ fm g x.2 (b + 102 * e + 51)
def MAt (σ : MS) (tx : List Nat) : Prop := σ.1 3 = i32 tx.length ∧ ∀ k, k < tx.length → σ.2.1 2 k = i32 (byt tx k)
def MAl (σ : MS) (L : Lw) : Prop := σ.1 4 = i32 L.1.length ∧ σ.1 5 = i32 L.2.length ∧ σ.1 7 = i32 0 ∧ (∀ (k : Nat) (I : Tr), L.1[k]? = some (some I) → fm (σ.2.1 1) I (51 * k)) ∧ (∀ (k : Nat) (T : Tr), L.2[k]? = some T → fm (σ.2.1 1) T (51 * (3 + k))) ∧ (∀ k, k < L.1.length → fxM σ k = fxL L k) ∧ ∀ k, k < 3 → bzb (σ.2.1 3 k) = true
def MAe (σ : MS) (l : Ens) : Prop := σ.1 8 = i32 l.length ∧ enAt (σ.2.1 1) 357 l
def MAn (σ : MS) : Prop := (∀ k, k < 20 → σ.2.2 k = pk 0 k 0 0) ∧ (∀ k, k < 10 → σ.2.1 11 k = i32 k)
def MAs (σ : MS) (sg : List (Nat × (Tr × Tr))) : Prop := σ.1 10 = i32 sg.length ∧ ∀ (i : Nat) (x : Nat × (Tr × Tr)), sg[i]? = some x → σ.2.1 4 i = i32 x.1 ∧ fm (σ.2.1 1) x.2.1 (1326 + 102 * i) ∧ fm (σ.2.1 1) x.2.2 (1326 + 102 * i + 51)
/-- what was done, newest last, leads back to what the entries were -/
def UM (A B C : Nat → Int32) : Ens → List Ens → Prop
  | _, [] => True
  | cur, s :: r => ((A r.length = i32 0 ∧ B r.length = i32 s.length ∧ ∃ e, cur = s ++ [e]) ∨ (A r.length = i32 1 ∧ ∃ w e, s[w]? = some e ∧ cur = s.eraseIdx w ∧ B r.length = i32 w ∧ fm C e.1 (102 * r.length) ∧ fm C e.2 (102 * r.length + 51))) ∧ UM A B C s r
def MAu (σ : MS) (en : Ens) (un : List Ens) : Prop := σ.1 15 = i32 un.length ∧ UM (σ.2.1 5) (σ.2.1 6) (σ.2.1 7) en un
def im1 (σ : MS) (j : Nat) : Option Ens → Prop
  | none => σ.2.1 9 j = -9
  | some l => σ.2.1 9 j = i32 l.length ∧ enAt (σ.2.1 8) (612 * j) l
def MAi (σ : MS) (im : Option Ens × Option Ens) : Prop := im1 σ 0 im.1 ∧ im1 σ 1 im.2
/-- the reference stands for a state -/
def MA (σ : MS) (s : Sta) : Prop := MAt σ s.tx ∧ MAl σ s.L ∧ MAe σ s.en ∧ MAn σ ∧ MAs σ s.sg ∧ MAu σ s.en s.un ∧ MAi σ s.im
theorem fm_sh {g h : Nat → Int32} {t : Tr} {p q : Nat} (e : ∀ k, k < ln t → h (q + k) = g (p + k)) (hf : fm g t p) : fm h t q := by
  rw [fm_iff] at hf ⊢
  intro k hk
  rw [e k hk]; exact hf k hk
theorem ent_ln {L : Lw} {e : Tr × Tr} (h : entOK L e) : ln e.1 ≤ 50 ∧ ln e.2 ≤ 50 := ⟨h.2.1.1, h.2.2.2.1⟩
theorem enAt_sh {L : Lw} {g h : Nat → Int32} {b c n : Nat} {l : Ens} (hl : ensOK L l) (hn : 102 * l.length ≤ n) (e : ∀ k, k < n → h (c + k) = g (b + k)) (he : enAt g b l) : enAt h c l := by
  intro i x hx
  have hi := (List.getElem?_eq_some_iff.mp hx).1
  obtain ⟨h1, h2⟩ := ent_ln (hl.2 x (List.mem_of_getElem? hx))
  obtain ⟨g1, g2⟩ := he i x hx
  constructor
  · exact fm_sh (fun k hk => by rw [Nat.add_assoc, Nat.add_assoc, e _ (by omega)]) g1
  · exact fm_sh (fun k hk => by rw [Nat.add_assoc, Nat.add_assoc, Nat.add_assoc, Nat.add_assoc, e _ (by omega)]) g2
theorem MAt_x {σ τ : MS} {tx : List Nat} (h : MAt σ tx) (a : τ.1 3 = σ.1 3) (b : τ.2.1 2 = σ.2.1 2) : MAt τ tx := by
  unfold MAt
  rw [a, b]; exact h
theorem MAl_x {σ τ : MS} {L : Lw} (hL : lwOK L) (h : MAl σ L) (a4 : τ.1 4 = σ.1 4) (a5 : τ.1 5 = σ.1 5) (a7 : τ.1 7 = σ.1 7) (b : τ.2.1 3 = σ.2.1 3) (c : ∀ i, i < 357 → τ.2.1 1 i = σ.2.1 1 i) : MAl τ L := by
  obtain ⟨h1, h2, h3, h4, h5, h6, h7⟩ := h
  have l1 := hL.1
  have l2 := hL.2.1
  refine ⟨by rw [a4]; exact h1, by rw [a5]; exact h2, by rw [a7]; exact h3, fun k I hI => ?_, fun k T hT => ?_, fun k hk => ?_, fun k hk => ?_⟩
  · have hk := (List.getElem?_eq_some_iff.mp hI).1
    have hn : ln I ≤ 50 := (hL.2.2.1 k I hI).2.2.1
    exact fm_sh (fun i hi => c _ (by omega)) (h4 k I hI)
  · have hk := (List.getElem?_eq_some_iff.mp hT).1
    have hn : ln T ≤ 50 := (hL.2.2.2 k T hT).2.1
    exact fm_sh (fun i hi => c _ (by omega)) (h5 k T hT)
  · have := h6 k hk
    unfold fxM at this ⊢
    rw [b]; exact this
  · rw [b]; exact h7 k hk
theorem MAe_x {σ τ : MS} {L : Lw} {l : Ens} (hl : ensOK L l) (h : MAe σ l) (a : τ.1 8 = σ.1 8) (c : ∀ i, 357 ≤ i → i < 969 → τ.2.1 1 i = σ.2.1 1 i) : MAe τ l := by
  refine ⟨by rw [a]; exact h.1, enAt_sh (n := 612) hl (by have := hl.1; omega) (fun k hk => c _ (by omega) (by omega)) h.2⟩
theorem MAn_x {σ τ : MS} (h : MAn σ) (a : ∀ k, k < 20 → τ.2.2 k = σ.2.2 k) (b : ∀ k, k < 10 → τ.2.1 11 k = σ.2.1 11 k) : MAn τ := ⟨fun k hk => by rw [a k hk]; exact h.1 k hk, fun k hk => by rw [b k hk]; exact h.2 k hk⟩
theorem MAs_x {σ τ : MS} {L : Lw} {sg : List (Nat × (Tr × Tr))} (hl : sg.length ≤ 4 ∧ ∀ x ∈ sg, x.1 ≤ 2 ∧ entOK L x.2) (h : MAs σ sg) (a : τ.1 10 = σ.1 10) (b : τ.2.1 4 = σ.2.1 4) (c : ∀ i, 1326 ≤ i → i < 1734 → τ.2.1 1 i = σ.2.1 1 i) : MAs τ sg := by
  refine ⟨by rw [a]; exact h.1, fun i x hx => ?_⟩
  have hi := (List.getElem?_eq_some_iff.mp hx).1
  obtain ⟨h1, h2⟩ := ent_ln (hl.2 x (List.mem_of_getElem? hx)).2
  have hn := hl.1
  obtain ⟨g0, g1, g2⟩ := h.2 i x hx
  exact ⟨by rw [b]; exact g0, fm_sh (fun k hk => c _ (by omega) (by omega)) g1, fm_sh (fun k hk => c _ (by omega) (by omega)) g2⟩
theorem MAu_x {σ τ : MS} {en : Ens} {un : List Ens} (h : MAu σ en un) (a : τ.1 15 = σ.1 15) (b5 : τ.2.1 5 = σ.2.1 5) (b6 : τ.2.1 6 = σ.2.1 6) (b7 : τ.2.1 7 = σ.2.1 7) : MAu τ en un := by
  unfold MAu
  rw [a, b5, b6, b7]; exact h
theorem MAi_x {σ τ : MS} {im : Option Ens × Option Ens} (h : MAi σ im) (b8 : τ.2.1 8 = σ.2.1 8) (b9 : τ.2.1 9 = σ.2.1 9) : MAi τ im := by
  unfold MAi at h ⊢
  have : ∀ j x, im1 σ j x → im1 τ j x := by
    intro j x hx
    cases x with
    | none => unfold im1 at hx ⊢; rw [b9]; exact hx
    | some l => unfold im1 at hx ⊢; rw [b8, b9]; exact hx
  exact ⟨this _ _ h.1, this _ _ h.2⟩
/-- a method that only reads leaves the state -/
theorem MA_MF {σ τ : MS} {s : Sta} (hs : SOK s) (h : MA σ s) (m : MF σ τ) : MA τ s := by
  obtain ⟨h1, h2, h3, h4, h5, h6, h7⟩ := h
  obtain ⟨⟨k1, k2, k3, k4⟩, c1, c2⟩ := m
  exact ⟨MAt_x h1 (c1 3 (by decide)) (c2 2 (by decide)), MAl_x hs.2.2.1 h2 (c1 4 (by decide)) (c1 5 (by decide)) (c1 7 (by decide)) k4 (fun i hi => k3 i (by omega)), MAe_x hs.2.2.2.1 h3 (c1 8 (by decide)) (fun i _ hi => k3 i (by omega)), MAn_x h4 k1 (fun k hk => k2 k (by omega)), MAs_x hs.2.2.2.2.1 h5 (c1 10 (by decide)) (c2 4 (by decide)) (fun i _ hi => k3 i hi), MAu_x h6 (c1 15 (by decide)) (c2 5 (by decide)) (c2 6 (by decide)) (c2 7 (by decide)), MAi_x h7 (c2 8 (by decide)) (c2 9 (by decide))⟩
theorem MA_RS {σ : MS} {s : Sta} (h : MA σ s) : RS s.L s.en s.tx (st σ) := by
  obtain ⟨⟨h1, h1'⟩, ⟨h2, h3, h4, h5, h6, h7, _⟩, ⟨h8, h9⟩, ⟨h10, h11⟩, _⟩ := h
  have o : ∀ k, k ≠ 1 → k ≠ 19 → k ≠ 21 → k ≠ 57 → k ≠ 56 → k ≠ 9 → (st σ).1 k = σ.1 k := fun k a b c d e f => st_o σ a b c d e f
  have o2 := st_2 σ
  refine ⟨by rw [o 3 (by decide) (by decide) (by decide) (by decide) (by decide) (by decide)]; exact h1, by rw [o2]; exact h1', by rw [o 4 (by decide) (by decide) (by decide) (by decide) (by decide) (by decide)]; exact h2, by rw [o 5 (by decide) (by decide) (by decide) (by decide) (by decide) (by decide)]; exact h3, ⟨0, by rw [o 7 (by decide) (by decide) (by decide) (by decide) (by decide) (by decide)]; exact h4, Nat.zero_le _, fun k I hI => by rw [o2, Nat.zero_add]; exact h5 k I hI, fun k T hT => by rw [o2, Nat.zero_add]; exact h6 k T hT⟩, fun k hk => ?_, ?_, by rw [o2]; exact h9, by rw [o2]; exact h10, by rw [o2]; exact h11⟩
  · rw [← h7 k hk]
    unfold fxM
    rw [o2]
  · rw [← h8]
    unfold st
    exact setF_eq _ _ _
end TOP4

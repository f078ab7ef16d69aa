section MREAD0
theorem setA_1 (σ : MS) (j i : Nat) (x : Int32) : (setA σ j i x).1 = σ.1 := rfl
theorem setA_n (σ : MS) (j i : Nat) (x : Int32) : (setA σ j i x).1 = σ.1 := Eq.trans rfl rfl
theorem setF_n (σ : MS) (k : Nat) (x : Int32) : (setF σ k x).2 = σ.2 := Eq.trans rfl rfl
theorem setF_2 (σ : MS) (k : Nat) (x : Int32) : (setF σ k x).2 = σ.2 := rfl
theorem setF_eq (σ : MS) (k : Nat) (x : Int32) : (setF σ k x).1 k = x := by simp [setF, upd]
theorem setF_ne (σ : MS) {k q : Nat} (x : Int32) (h : q ≠ k) : (setF σ k x).1 q = σ.1 q := by
  simp only [setF, upd]
  rw [if_neg h]
theorem neg9_lt : ¬ ((0 : Int32) ≤ -9) := by decide
theorem i_nn {a : Nat} (h : a < 2147483648) : (0 : Int32) ≤ i32 a := by rw [show (0 : Int32) = i32 0 from rfl, z_le (by omega) h]; omega
theorem i_ne9 {a : Nat} (h : a < 2147483648) : ¬ (i32 a = -9) := fun e => neg9_lt (e ▸ i_nn h)
theorem i_ne1 {a : Nat} (h : a < 2147483648) : ¬ (i32 a = -1) := fun e => absurd (e ▸ i_nn h) (by decide)
theorem m_fails {σ : MS} (x : Int32) (h : σ.1 57 = -9) : f_fails x σ = some (0, setF σ 57 x) := by
  unfold f_fails B_fails_16
  rw [h, if_neg neg9_lt]
theorem m_here0 {σ : MS} {n p : Nat} (h3 : σ.1 3 = i32 n) (h56 : σ.1 56 = i32 p) (hn : n ≤ 32) (hp : n ≤ p) (hp2 : p < 100) : f_here σ = some (-9, σ) := by
  unfold f_here B_here_25
  rw [h3, h56, if_pos (show i32 n ≤ i32 p from by rw [z_le (by omega) (by omega)]; exact hp)]
theorem m_here1 {σ : MS} {n p : Nat} (h3 : σ.1 3 = i32 n) (h56 : σ.1 56 = i32 p) (hn : n ≤ 32) (hp : p < n) : f_here σ = some (σ.2.1 2 p, σ) := by
  unfold f_here B_here_25
  rw [h3, h56, if_neg (show ¬ (i32 n ≤ i32 p) from by rw [z_le (by omega) (by omega)]; omega), if_pos (c_ix (show p < aln 2 by show p < 32; omega) (by omega)), z_nn (by omega)]
/-- a part begins -/
def bgn (σ : MS) (P : Nat) (s a : Int32) : MS := setF (setA (setA (setA (setA (setA (setA (setA σ 23 P s) 24 P a) 25 P (σ.1 46)) 26 P (σ.1 47)) 27 P (σ.1 48)) 28 P (σ.1 49)) 29 P (σ.1 50)) 44 (i32 (P + 1))
theorem m_begins {σ : MS} {P : Nat} (s a : Int32) (h : σ.1 44 = i32 P) (hP : P < 40) : f_begins s a σ = some (0, bgn σ P s a) := by
  have e23 : ix (i32 P) (aln 23) = true := c_ix (show P < 40 from hP) (by omega)
  have e24 : ix (i32 P) (aln 24) = true := e23
  have e25 : ix (i32 P) (aln 25) = true := e23
  have e26 : ix (i32 P) (aln 26) = true := e23
  have e27 : ix (i32 P) (aln 27) = true := e23
  have e28 : ix (i32 P) (aln 28) = true := e23
  have e29 : ix (i32 P) (aln 29) = true := e23
  unfold f_begins
  simp (disch := omega) only [setA_n, h, z_nn, e23, e24, e25, e26, e27, e28, e29, if_true, z1, z_add]
  rfl
/-- what was due at a part's beginning is due again -/
def agn (σ : MS) (P : Nat) : MS := setF (setF (setF (setF (setF σ 46 (σ.2.1 25 P)) 47 (σ.2.1 26 P)) 48 (σ.2.1 27 P)) 49 (σ.2.1 28 P)) 50 (σ.2.1 29 P)
theorem m_again {σ : MS} {P : Nat} (hP : P < 40) : f_again (i32 P) σ = some (0, agn σ P) := by
  unfold f_again
  simp only [setF_2]
  rw [z_nn (by omega)]
  have e25 : ix (i32 P) (aln 25) = true := c_ix (show P < 40 from hP) (by omega)
  have e26 : ix (i32 P) (aln 26) = true := e25
  have e27 : ix (i32 P) (aln 27) = true := e25
  have e28 : ix (i32 P) (aln 28) = true := e25
  have e29 : ix (i32 P) (aln 29) = true := e25
  rw [if_pos e25, if_pos e26, if_pos e27, if_pos e28, if_pos e29]
  rfl
def due (σ : MS) (a b c d : Int32) : MS := setF (setF (setF (setF (setF σ 45 0) 47 a) 48 b) 49 c) 50 d
theorem m_dueTerm (σ : MS) (a b c d : Int32) : f_dueTerm a b c d σ = some (0, due σ a b c d) := rfl
theorem m_endsType {σ : MS} {t : Tr} {g : Nat} (p : Int32) (ht : pr (fxM σ) t) (hf : fm (σ.2.1 1) t g) (hl : g + ln t ≤ 9400) (h57 : σ.1 57 = -9) : f_endsType p (i32 g) σ = some (0, setF (setF (setF (if ln t ≤ 50 then σ else setF σ 57 p) 52 1) 53 p) 54 (i32 g)) := by
  unfold f_endsType B_endsType_15
  rw [m_longOf ht hf hl, Option.bind_some]
  dsimp only
  by_cases h : ln t ≤ 50
  · rw [if_pos (show i32 (ln t) ≤ 50 from by rw [show (50 : Int32) = i32 50 from rfl, z_le (by omega) (by omega)]; exact h), if_pos h]
  · rw [if_neg (show ¬ (i32 (ln t) ≤ 50) from by rw [show (50 : Int32) = i32 50 from rfl, z_le (by omega) (by omega)]; exact h), if_neg h, m_fails p h57, Option.bind_some]
theorem m_endsGiven {σ : MS} {t : Tr} {g : Nat} (p : Int32) (ht : pr (fxM σ) t) (hf : fm (σ.2.1 1) t g) (hl : g + ln t ≤ 9400) (h57 : σ.1 57 = -9) : f_endsGiven p (i32 g) σ = some (0, setF (setF (setF (setF (if ln t ≤ 50 then σ else setF σ 57 p) 52 2) 53 p) 54 (i32 g)) 55 (-9)) := by
  unfold f_endsGiven B_endsGiven_15
  rw [m_longOf ht hf hl, Option.bind_some]
  dsimp only
  by_cases h : ln t ≤ 50
  · rw [if_pos (show i32 (ln t) ≤ 50 from by rw [show (50 : Int32) = i32 50 from rfl, z_le (by omega) (by omega)]; exact h), if_pos h]
  · rw [if_neg (show ¬ (i32 (ln t) ≤ 50) from by rw [show (50 : Int32) = i32 50 from rfl, z_le (by omega) (by omega)]; exact h), if_neg h, m_fails p h57, Option.bind_some]
section LOOP
variable {F e P : Nat} {σ : MS}
theorem rw_err (h : σ.1 57 = i32 e) (he : e < 2147483648) : L_readsWhole_15 (F + 1) σ = some (0, σ) := by
  rw [L_readsWhole_15, h, if_pos (i_nn he)]; rfl
theorem rw_reads (h57 : σ.1 57 = -9) (h52 : σ.1 52 = i32 0) : L_readsWhole_15 (F + 1) σ = (f_reads σ).bind fun q => L_readsWhole_15 F q.2 := by
  have h52' : σ.1 52 = 0 := h52
  rw [L_readsWhole_15, h57, if_neg neg9_lt]
  unfold B_readsWhole_36
  rw [if_pos h52']
  split
  · rfl
  · rfl
theorem rw_type (h57 : σ.1 57 = -9) (h44 : σ.1 44 = i32 (P + 1)) (hP : P < 1000) (h52 : σ.1 52 = i32 1) : L_readsWhole_15 (F + 1) σ = (f_handsType σ).bind fun q => L_readsWhole_15 F q.2 := by
  rw [L_readsWhole_15, h57, if_neg neg9_lt, h44, if_pos (show (0 : Int32) < i32 (P + 1) from by rw [show (0 : Int32) = i32 0 from rfl, z_lt (by omega) (by omega)]; omega)]
  unfold B_readsWhole_36
  rw [h52, if_neg (show ¬ (i32 1 = 0) from by decide), if_pos (show i32 1 = 1 from rfl)]
theorem rw_term (h57 : σ.1 57 = -9) (h44 : σ.1 44 = i32 (P + 1)) (hP : P < 1000) (h52 : σ.1 52 = i32 2) : L_readsWhole_15 (F + 1) σ = (f_handsTerm σ).bind fun q => L_readsWhole_15 F q.2 := by
  rw [L_readsWhole_15, h57, if_neg neg9_lt, h44, if_pos (show (0 : Int32) < i32 (P + 1) from by rw [show (0 : Int32) = i32 0 from rfl, z_lt (by omega) (by omega)]; omega)]
  unfold B_readsWhole_36
  rw [h52, if_neg (show ¬ (i32 2 = 0) from by decide), if_neg (show ¬ (i32 2 = 1) from by decide)]
theorem rw_end (h57 : σ.1 57 = -9) (h44 : σ.1 44 = i32 0) {k : Nat} (hk : k = 1 ∨ k = 2) (h52 : σ.1 52 = i32 k) : L_readsWhole_15 (F + 1) σ = some (0, σ) := by
  rw [L_readsWhole_15, h57, if_neg neg9_lt, h44, if_neg (show ¬ ((0 : Int32) < i32 0) from by decide), h52]
  rcases hk with rfl | rfl
  · rw [if_neg (show ¬ (i32 1 = 0) from by decide)]; rfl
  · rw [if_neg (show ¬ (i32 2 = 0) from by decide)]; rfl
end LOOP
/-- what a reading leaves as it was, and what it may change -/
def FR : List Nat := [1, 19, 21, 24, 27, 44, 45, 46, 47, 48, 49, 50, 52, 53, 54, 55, 56, 57]
def AR : List Nat := [1, 11, 12, 13, 14, 15, 16, 17, 18, 19, 20, 21, 22, 23, 24, 25, 26, 27, 28, 29, 30, 31, 32]
/-- the parts that wait stay -/
def frp (σ τ : MS) (P : Nat) : Prop := ∀ j, 23 ≤ j → j ≤ 31 → ∀ i, i < P → τ.2.1 j i = σ.2.1 j i
theorem frp_rf (σ : MS) (P : Nat) : frp σ σ P := fun _ _ _ _ _ => rfl
theorem frp_tr {σ τ υ : MS} {P Q : Nat} (h : frp σ τ P) (g : frp τ υ Q) (hPQ : P ≤ Q) : frp σ υ P := fun j h1 h2 i hi => (g j h1 h2 i (by omega)).trans (h j h1 h2 i hi)
def GR (σ τ : MS) (V E T P : Nat) : Prop := kp σ τ V E T ∧ ch FR AR σ τ ∧ frp σ τ P
theorem GR_rf (σ : MS) (V E T P : Nat) : GR σ σ V E T P := ⟨kp_rf _ _ _ _, ch_rf _ _ _, frp_rf _ _⟩
theorem GR_tr {σ τ υ : MS} {V E T P V' E' T' P' : Nat} (h : GR σ τ V E T P) (g : GR τ υ V' E' T' P') (hV : V ≤ V') (hE : E ≤ E') (hT : T ≤ T') (hP : P ≤ P') : GR σ υ V E T P := ⟨kp_tr h.1 g.1 hV hE hT, ch_tr h.2.1 g.2.1, frp_tr h.2.2 g.2.2 hP⟩
theorem GR_F (σ : MS) {k : Nat} (x : Int32) (h : k ∈ FR) (V E T P : Nat) : GR σ (setF σ k x) V E T P := ⟨kp_setF _ _ _ _ _ _, ch_setF _ _ h, fun _ _ _ _ _ => rfl⟩
theorem GR_A (σ : MS) {j i : Nat} (x : Int32) {P : Nat} (h : j = 32 ∨ (23 ≤ j ∧ j ≤ 31 ∧ P ≤ i)) (V E T : Nat) : GR σ (setA σ j i x) V E T P := ⟨kp_setA _ _ _ _ _ _ (by omega) (by omega) (by omega), ch_setA _ _ (by simp only [AR, List.mem_cons, List.mem_nil_iff, or_false]; omega), fun q h1 h2 a ha => setA_ne _ _ (by omega)⟩
theorem GR_Y {σ τ : MS} {V E T P : Nat} {F A : List Nat} (hk : kp σ τ V E T) (hc : ch F A σ τ) (hF : ∀ k, k ∈ F → k ∈ FR) (hA : ∀ k, k ∈ A → k ∈ AR) (hA2 : ∀ k, k ∈ A → k < 23 ∨ 31 < k) : GR σ τ V E T P := ⟨hk, ch_mo hc hF hA, fun j h1 h2 i _ => by rw [hc.2 j (fun h => by have := hA2 j h; omega)]⟩
/-- what a reading does not touch: the text, the laws, the entries, the names as values -/
def RS (L : Lw) (ents : List (Tr × Tr)) (tx : List Nat) (σ : MS) : Prop :=
  σ.1 3 = i32 tx.length ∧ (∀ k, k < tx.length → σ.2.1 2 k = i32 (byt tx k)) ∧ σ.1 4 = i32 L.1.length ∧ σ.1 5 = i32 L.2.length
  ∧ (∃ la, σ.1 7 = i32 la ∧ la ≤ 969 ∧ (∀ (k : Nat) (I : Tr), L.1[k]? = some (some I) → fm (σ.2.1 1) I (la + 51 * k)) ∧ (∀ (k : Nat) (T : Tr), L.2[k]? = some T → fm (σ.2.1 1) T (la + 51 * (3 + k))))
  ∧ (∀ k, k < L.1.length → fxM σ k = fxL L k) ∧ σ.1 9 = i32 ents.length
  ∧ (∀ (e : Nat) (x : Tr × Tr), ents[e]? = some x → fm (σ.2.1 1) x.1 (357 + 102 * e) ∧ fm (σ.2.1 1) x.2 (357 + 102 * e + 51))
  ∧ (∀ k, k < 20 → σ.2.2 k = pk 0 k 0 0) ∧ (∀ k, k < 10 → σ.2.1 11 k = i32 k)
def WL (L : Lw) (ents : List (Tr × Tr)) (tx : List Nat) : Prop := lwOK L ∧ (∀ e ∈ ents, entOK L e) ∧ ents.length ≤ 6 ∧ tx.length ≤ 32 ∧ ∀ x ∈ tx, x < 256
theorem RS_kp {L : Lw} {ents : List (Tr × Tr)} {tx : List Nat} {σ τ : MS} {V E T : Nat} (hw : WL L ents tx) (h : RS L ents tx σ) (hk : kp σ τ V E T) (hV : 20 ≤ V) (hE : 1 ≤ E) (hT : 1734 ≤ T) (hc : ch FR AR σ τ) : RS L ents tx τ := by
  obtain ⟨h1, h2, h3, h4, ⟨la, h5, h6, h7, h8⟩, h9, h10, h11, h12, h13⟩ := h
  have hl3 := hw.1.1
  have hl4 := hw.1.2.1
  have hl6 := hw.2.2.1
  have f : ∀ k, k ∉ FR → τ.1 k = σ.1 k := hc.1
  refine ⟨by rw [f 3 (by decide)]; exact h1, fun k hk' => by rw [hc.2 2 (by decide)]; exact h2 k hk', by rw [f 4 (by decide)]; exact h3, by rw [f 5 (by decide)]; exact h4, ⟨la, by rw [f 7 (by decide)]; exact h5, h6, fun k I hI => ?_, fun k T' hT' => ?_⟩, fun k hk' => by rw [kp_fx hk]; exact h9 k hk', by rw [f 9 (by decide)]; exact h10, fun e x hx => ?_, fun k hk' => by rw [hk.1 k (by omega)]; exact h12 k hk', fun k hk' => by rw [hk.2.1 k (by omega)]; exact h13 k hk'⟩
  · have := (List.getElem?_eq_some_iff.mp hI).1
    have hf := (hw.1.2.2.1 k I hI).2.2.1
    exact kp_fm hk (h7 k I hI) (by unfold ln; omega)
  · have := (List.getElem?_eq_some_iff.mp hT').1
    have hf := (hw.1.2.2.2 k T' hT').2.1
    exact kp_fm hk (h8 k T' hT') (by unfold ln; omega)
  · have := (List.getElem?_eq_some_iff.mp hx).1
    obtain ⟨_, g1, _, g2⟩ := hw.2.1 x (List.mem_of_getElem? hx)
    exact ⟨kp_fm hk (h11 e x hx).1 (by have := g1.1; unfold ln; omega), kp_fm hk (h11 e x hx).2 (by have := g2.1; unfold ln; omega)⟩
/-- the type of a name, as the reference keeps it: its normal form, or that it is too large -/
def ntOK (σ : MS) (T : Nat) (rq : Rq) (k : Nat) (x : Int32) : Prop := (fits (nft rq.1 rq.2 k) k ∧ ∃ q, x = i32 q ∧ fm (σ.2.1 1) (nft rq.1 rq.2 k) q ∧ q + ln (nft rq.1 rq.2 k) ≤ T) ∨ (¬ fits (nft rq.1 rq.2 k) k ∧ x = -1)
/-- how far a reading has come -/
def DS (vt : List Rq) (σ : MS) (V E T p : Nat) : Prop := σ.1 1 = i32 T ∧ σ.1 19 = i32 V ∧ σ.1 21 = i32 E ∧ σ.1 46 = i32 vt.length ∧ σ.1 56 = i32 p ∧ σ.1 57 = -9 ∧ V ≤ 20 + 26 * p ∧ E ≤ 1 + p ∧ 1734 ≤ T ∧ T ≤ 1734 + 160 * p ∧ 20 ≤ V ∧ 1 ≤ E ∧ ∀ (k : Nat) (rq : Rq), vt[k]? = some rq → ntOK σ T rq k (σ.2.1 32 k)
theorem nt_kp {σ τ : MS} {V E T T' : Nat} {rq : Rq} {k : Nat} {x : Int32} (h : ntOK σ T rq k x) (hk : kp σ τ V E T) (hT : T ≤ T') : ntOK τ T' rq k x := by
  rcases h with ⟨h1, q, h2, h3, h4⟩ | h
  · exact Or.inl ⟨h1, q, h2, kp_fm hk h3 h4, by omega⟩
  · exact Or.inr h
end MREAD0

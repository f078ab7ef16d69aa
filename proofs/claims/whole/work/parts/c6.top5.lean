section TOP5
/-- an argument is a number below n -/
abbrev inR (x : Int32) (n : Nat) : Prop := 0 ≤ x ∧ x.toNatClampNeg < n
theorem i_cl {x : Int32} (h : 0 ≤ x) : x = i32 x.toNatClampNeg := by
  have h' : 0 ≤ x.toInt := by have := Int32.le_iff_toInt_le.mp h; simpa using this
  apply Int32.toInt_inj.mp
  unfold i32
  rw [← Int32.ofInt_eq_ofNat]
  have e : ((x.toNatClampNeg : Nat) : Int) = x.toInt := by
    show ((x.toInt.toNat : Nat) : Int) = x.toInt
    omega
  rw [e, Int32.ofInt_toInt]
theorem i_clt {x : Int32} : x.toNatClampNeg < 2147483648 := by
  show x.toInt.toNat < 2147483648
  have := Int32.toInt_lt x
  omega
theorem inR_e {x : Int32} {n : Nat} (h : inR x n) : x = i32 x.toNatClampNeg := i_cl h.1
theorem i_sub1 (n : Nat) : i32 n - 1 = Int32.ofInt ((n : Int) - 1) := by
  unfold i32
  rw [← Int32.ofInt_eq_ofNat, show (1 : Int32) = Int32.ofInt 1 from rfl, ← Int32.ofInt_sub]
theorem inR_m {x : Int32} {n : Nat} (hn : n < 100000) : (0 ≤ x ∧ x ≤ i32 n - 1) ↔ inR x n := by
  unfold inR
  refine and_congr_right fun h => ?_
  have h' : 0 ≤ x.toInt := by have := Int32.le_iff_toInt_le.mp h; simpa using this
  rw [Int32.le_iff_toInt_le, i_sub1, Int32.toInt_ofInt_of_le (by omega) (by omega)]
  show _ ↔ x.toInt.toNat < n
  omega
theorem inR_l {x : Int32} {n : Nat} (hn : n < 90000) : (0 ≤ x ∧ x ≤ i32 n) ↔ inR x (n + 1) := by
  rw [← inR_m (n := n + 1) (by omega), z_sub1]
theorem m_inR {x : Int32} {n : Nat} (hn : n < 100000) (σ : MS) : f_in x 0 (i32 n - 1) σ = some (if inR x n then 1 else 0, σ) := by
  rw [m_in]
  by_cases h : inR x n
  · rw [if_pos h, if_pos ((inR_m hn).mpr h)]
  · rw [if_neg h, if_neg (fun g => h ((inR_m hn).mp g))]
theorem m_inL {x : Int32} {n : Nat} (hn : n < 90000) (σ : MS) : f_in x 0 (i32 n) σ = some (if inR x (n + 1) then 1 else 0, σ) := by
  rw [m_in]
  by_cases h : inR x (n + 1)
  · rw [if_pos h, if_pos ((inR_l hn).mpr h)]
  · rw [if_neg h, if_neg (fun g => h ((inR_l hn).mp g))]
theorem m_isEntry {σ : MS} {x : Int32} {n : Nat} (h : σ.1 8 = i32 n) (hn : n < 100000) : f_isEntry x σ = some (if inR x n then 1 else 0, σ) := by
  unfold f_isEntry
  rw [h, m_inR hn, Option.bind_some]
  by_cases g : inR x n
  · rw [if_pos g]; rfl
  · rw [if_neg g]; rfl
/-- a sign of a form -/
def sgA (t : Tr) (k : Int32) : Int32 := if i32 (ln t) ≤ k then -9 else i32 ((enc t).getD k.toNatClampNeg 0)
theorem m_signAt {σ : MS} {t : Tr} {p : Nat} {k : Int32} (hp : pr (fxM σ) t) (hf : fm (σ.2.1 1) t p) (hl : p + ln t ≤ 9400) (hk : 0 ≤ k) : f_signAt (i32 p) k σ = some (sgA t k, σ) := by
  unfold f_signAt B_signAt_22 sgA
  rw [m_longOf hp hf hl, Option.bind_some]
  dsimp only
  by_cases h : i32 (ln t) ≤ k
  · rw [if_pos h, if_pos h]
  · rw [if_neg h, if_neg h]
    have e := i_cl hk
    have hc := i_clt (x := k)
    generalize k.toNatClampNeg = n at e hc
    subst e
    rw [z_le (by omega) hc] at h
    rw [z_add, if_pos (c_ix (show p + n < aln 1 from Nat.lt_of_lt_of_le (show p + n < 9400 by omega) (Nat.le_refl _)) (by omega)), z_nn (by omega), (fm_iff t p).mp hf n (by omega)]
/-- a sign of a form, or how many there are -/
def soM (t : Tr) (k : Int32) : Int32 := if 0 ≤ k then sgA t k else i32 (ln t)
theorem m_signOrMany {σ : MS} {t : Tr} {p : Nat} {k : Int32} (hp : pr (fxM σ) t) (hf : fm (σ.2.1 1) t p) (hl : p + ln t ≤ 9400) : f_signOrMany (i32 p) k σ = some (soM t k, σ) := by
  unfold f_signOrMany B_signOrMany_18 soM
  by_cases h : 0 ≤ k
  · rw [if_pos h, if_pos h, m_signAt hp hf hl h, Option.bind_some]
  · rw [if_neg h, if_neg h, m_longOf hp hf hl, Option.bind_some]
/-- what is read is well-formed -/
theorem okG {L : Lw} {ents : List (Tr × Tr)} {tx : List Nat} (hw : WL L ents tx) {two : Bool} {y : Tr × Tr × Tr} (h : spG L ents tx two = .ok y) : entOK L (y.1, y.2.1) ∧ entOK L (y.1, y.2.2) := by
  have oT := (okRD (tx := tx) hw.1 hw.2.1 hw.2.2.1 70).1
  have oC := (okRD (tx := tx) hw.1 hw.2.1 hw.2.2.1 70).2.1
  unfold spG at h
  cases h1 : (RD L ents tx 70).1 [] 0 with
  | error e => rw [h1] at h; cases h
  | ok a =>
    obtain ⟨y1, y2, y3, y4⟩ := oT [] 0 a (vtOK_nil L) h1
    have rqA : rqOK L [] (a.1, []) := ⟨[], y1, enV_nil _ _, y2.2, Nat.zero_le _, y2.1⟩
    rw [h1] at h
    change (((RD L ents tx 70).2.1 [] (a.1, []) a.2).bind fun b => _) = _ at h
    cases h2 : (RD L ents tx 70).2.1 [] (a.1, []) a.2 with
    | error e => rw [h2] at h; cases h
    | ok b =>
      obtain ⟨z1, z2, z3, z4⟩ := oC [] (a.1, []) a.2 b (vtOK_nil L) rqA h2
      rw [h2] at h
      change (if two = true then ((RD L ents tx 70).2.1 [] (a.1, []) b.2).bind fun c => if c.2 = tx.length then .ok (a.1, b.1, c.1) else .error c.2 else if b.2 = tx.length then .ok (a.1, b.1, b.1) else .error b.2) = _ at h
      have eb : entOK L (a.1, b.1) := ⟨y1, y2, z1, z2⟩
      cases two with
      | false =>
        rw [if_neg (show ¬ (false = true) by decide)] at h
        by_cases hb : b.2 = tx.length
        · rw [if_pos hb] at h
          cases h
          exact ⟨eb, eb⟩
        · rw [if_neg hb] at h; cases h
      | true =>
        rw [if_pos rfl] at h
        cases h3 : (RD L ents tx 70).2.1 [] (a.1, []) b.2 with
        | error e => rw [h3] at h; cases h
        | ok c =>
          obtain ⟨r1, r2, r3, r4⟩ := oC [] (a.1, []) b.2 c (vtOK_nil L) rqA h3
          rw [h3] at h
          change (if c.2 = tx.length then Except.ok (a.1, b.1, c.1) else .error c.2) = _ at h
          by_cases hb : c.2 = tx.length
          · rw [if_pos hb] at h
            cases h
            exact ⟨eb, y1, y2, r1, r2⟩
          · rw [if_neg hb] at h; cases h
theorem okF {L : Lw} {ents : List (Tr × Tr)} {tx : List Nat} (hw : WL L ents tx) {T : Tr} (h : spF L ents tx = .ok T) : WT L T [] ∧ fits T 0 := by
  have oI := (okRD (tx := tx) hw.1 hw.2.1 hw.2.2.1 70).2.2
  unfold spF at h
  cases h1 : (RD L ents tx 70).2.2 [] 0 with
  | error e => rw [h1] at h; cases h
  | ok a =>
    obtain ⟨y1, y2, y3, y4, _⟩ := oI [] 0 a (vtOK_nil L) h1
    rw [h1] at h
    change (if a.2.2 = tx.length then Except.ok a.1 else .error a.2.2) = _ at h
    by_cases hb : a.2.2 = tx.length
    · rw [if_pos hb] at h
      cases h
      exact ⟨y1, y3⟩
    · rw [if_neg hb] at h; cases h
theorem MA_pr {σ : MS} {s : Sta} (hs : SOK s) (h : MA σ s) {e : Tr × Tr} (he : entOK s.L e) : pr (fxM σ) e.1 ∧ pr (fxM σ) e.2 := by
  have hl := hs.2.2.1
  exact ⟨WT_pr ⟨hl.1, hl.2.1⟩ h.2.1.2.2.2.2.2.1 _ _ he.1, HT_pr hl.2.1 _ _ _ _ _ he.2.2.1⟩
theorem MA_prT {σ : MS} {s : Sta} (hs : SOK s) (h : MA σ s) {T : Tr} (he : WT s.L T []) : pr (fxM σ) T := by
  have hl := hs.2.2.1
  exact WT_pr ⟨hl.1, hl.2.1⟩ h.2.1.2.2.2.2.2.1 _ _ he
/-- the reference answers so and stands for a state then -/
def MO (f : Option (Int32 × MS)) (r : Int32 × Sta) : Prop := ∃ τ, f = some (r.1, τ) ∧ MA τ r.2
/-- a fault as an answer -/
def flt (e : Nat) : Int32 := -10 - i32 e
end TOP5

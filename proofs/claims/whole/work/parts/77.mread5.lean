section MREAD5
variable {L : Lw} {ents : List (Tr × Tr)} {tx : List Nat}
theorem byt_256 (hw : WL L ents tx) {p : Nat} (hp : p < tx.length) : byt tx p < 256 := by
  unfold byt
  rw [List.getD_eq_getElem?_getD, List.getElem?_eq_getElem hp]
  exact hw.2.2.2.2 _ (List.getElem_mem _)
theorem byt_end {p : Nat} (hp : tx.length ≤ p) : byt tx p = 300 := by
  simp [byt, List.getElem?_eq_none hp]
section STEPS
variable {vt : List Rq} {p V E T P F : Nat} {σ : MS}
theorem rd_here (hw : WL L ents tx) {d : Nat} (hb : Beg L ents tx vt σ p V E T P (F + 1) d) (hp : p < tx.length) : f_here σ = some (i32 (byt tx p), σ) := by
  obtain ⟨hv, hs, hd, h44, hP, hpl, h45, h52, hF⟩ := hb
  rw [m_here1 hs.1 hd.2.2.2.2.1 hw.2.2.2.1 hp, hs.2.1 p hp]
/-- the text is at its end -/
theorem rd_end (hw : WL L ents tx) {d : Nat} (hb : Beg L ents tx vt σ p V E T P (F + 1) d) (hp : tx.length ≤ p) : RunE σ (F + 1) V E T p := by
  obtain ⟨hv, hs, hd, h44, hP, hpl, h45, h52, hF⟩ := hb
  have h56 := hd.2.2.2.2.1
  have h57 := hd.2.2.2.2.2.1
  have hl := hw.2.2.2.1
  refine E1 (τ := setF σ 57 (i32 p)) (by omega) (by omega) ?_ (setF_eq _ _ _) (kp_setF _ _ _ _ _ _) (ch_setF _ _ (by simp [FR]))
  rw [rw_reads h57 h52]
  unfold f_reads B_reads_82
  rw [m_here0 hs.1 h56 hl hp (by omega), Option.bind_some]
  dsimp only
  rw [if_pos rfl, h56, m_fails _ h57]
  rfl
theorem rd_type (hw : WL L ents tx) (hb : Beg L ents tx vt σ p V E T P (F + 1) 1) (hp : p < tx.length) : L_readsWhole_15 (F + 1) σ = (f_readsType (i32 (byt tx p)) σ).bind fun q => L_readsWhole_15 F q.2 := by
  have hh := rd_here hw hb hp
  obtain ⟨hv, hs, hd, h44, hP, hpl, h45, h52, hF⟩ := hb
  have h57 := hd.2.2.2.2.2.1
  have hc := byt_256 hw hp
  rw [rw_reads h57 h52]
  unfold f_reads B_reads_82
  rw [hh, Option.bind_some]
  dsimp only
  rw [if_neg (i_ne9 (by omega)), h45, if_neg (show ¬ (i32 1 = 0) from by decide)]
  cases f_readsType (i32 (byt tx p)) σ <;> rfl
theorem rd_35 (hw : WL L ents tx) (hb : Beg L ents tx vt σ p V E T P (F + 1) 0) (hp : p < tx.length) (hc : byt tx p = 35) : L_readsWhole_15 (F + 1) σ = (f_readsEntry σ).bind fun q => L_readsWhole_15 F q.2 := by
  have hh := rd_here hw hb hp
  obtain ⟨hv, hs, hd, h44, hP, hpl, h45, h52, hF⟩ := hb
  have h57 := hd.2.2.2.2.2.1
  rw [rw_reads h57 h52]
  unfold f_reads B_reads_82
  rw [hh, Option.bind_some]
  dsimp only
  rw [hc, if_neg (i_ne9 (by omega)), h45, if_pos (show i32 0 = 0 from rfl), if_pos (show i32 35 = 35 from rfl)]
  cases f_readsEntry σ <;> rfl
def stands (L : Lw) (n c : Nat) : Prop := (48 ≤ c ∧ c - 48 < n) ∨ (97 ≤ c ∧ c - 97 < L.2.length) ∨ c = 58 ∨ c = 46 ∨ c = 60 ∨ c = 62
theorem rd_found (hw : WL L ents tx) (hb : Beg L ents tx vt σ p V E T P (F + 1) 0) (hp : p < tx.length) (hc : stands L vt.length (byt tx p)) : L_readsWhole_15 (F + 1) σ = (f_readsFound (i32 (byt tx p)) σ).bind fun q => L_readsWhole_15 F q.2 := by
  have hh := rd_here hw hb hp
  obtain ⟨hv, hs, hd, h44, hP, hpl, h45, h52, hF⟩ := hb
  have h57 := hd.2.2.2.2.2.1
  have hcc := byt_256 hw hp
  have hv10 := hv.1
  have h35 : byt tx p ≠ 35 := by unfold stands at hc; omega
  have hc' := hc
  unfold stands at hc'
  rw [rw_reads h57 h52]
  unfold f_reads B_reads_82
  rw [hh, Option.bind_some]
  dsimp only
  rw [if_neg (i_ne9 (by omega)), h45, if_pos (show i32 0 = 0 from rfl), if_neg (show ¬ (i32 (byt tx p) = 35) from c_eq (b := 35) h35 (by omega) (by omega)), m_canStand hcc hv.1 (W34 hw).2 hd.2.2.2.1 hs.2.2.2.1, if_pos hc', Option.bind_some]
  dsimp only
  rw [if_neg (show ¬ (i32 1 = 0) from by decide)]
  cases f_readsFound (i32 (byt tx p)) σ <;> rfl
theorem rd_given (hw : WL L ents tx) (hb : Beg L ents tx vt σ p V E T P (F + 1) 0) (hp : p < tx.length) (hc : ¬ stands L vt.length (byt tx p)) (h35 : byt tx p ≠ 35) : L_readsWhole_15 (F + 1) σ = (f_readsGiven (i32 (byt tx p)) σ).bind fun q => if q.1 = 0 then (f_fails (q.2.1 56) q.2).bind fun q4 => L_readsWhole_15 F q4.2 else L_readsWhole_15 F q.2 := by
  have hh := rd_here hw hb hp
  obtain ⟨hv, hs, hd, h44, hP, hpl, h45, h52, hF⟩ := hb
  have h57 := hd.2.2.2.2.2.1
  have hcc := byt_256 hw hp
  have hc' := hc
  unfold stands at hc'
  rw [rw_reads h57 h52]
  unfold f_reads B_reads_82
  rw [hh, Option.bind_some]
  dsimp only
  rw [if_neg (i_ne9 (by omega)), h45, if_pos (show i32 0 = 0 from rfl), if_neg (show ¬ (i32 (byt tx p) = 35) from c_eq (b := 35) h35 (by omega) (by omega)), m_canStand hcc hv.1 (W34 hw).2 hd.2.2.2.1 hs.2.2.2.1, if_neg hc', Option.bind_some]
  dsimp only
  rw [if_pos (show i32 0 = 0 from rfl)]
  cases f_readsGiven (i32 (byt tx p)) σ with
  | none => rfl
  | some q =>
    rw [Option.bind_some, Option.bind_some]
    split
    · cases f_fails (q.2.1 56) q.2 <;> rfl
    · rfl
/-- neither of the three that stand where a type is given -/
theorem m_given0 {c : Nat} (hc : c < 256) (h : (∃ nd, nd < 3 ∧ σ.1 47 = i32 nd) ∨ (c ≠ 42 ∧ c ≠ 44 ∧ c ≠ 92 ∧ σ.1 47 = i32 3 ∧ ∃ q, σ.1 48 = i32 q ∧ q < 9400)) : f_readsGiven (i32 c) σ = some (0, σ) := by
  unfold f_readsGiven B_readsGiven_13
  rcases h with ⟨nd, h1, h2⟩ | ⟨h1, h2, h3, h4, q, h5, h6⟩
  · rw [if_neg (show ¬ (σ.1 47 = 3) from by rw [h2]; exact c_eq (b := 3) (by omega) (by omega) (by omega)), if_pos rfl]
    unfold B_readsGiven_31 B_readsGiven_82 B_readsGiven_133 B_readsGiven_260
    by_cases e1 : c = 42
    · subst e1
      rw [if_pos (show i32 42 = 42 from rfl), if_neg (show ¬ ((0 : Int32) = 49) from by decide), if_neg (show ¬ (i32 42 = 44) from by decide), if_neg (show ¬ (i32 42 = 92) from by decide)]
    · rw [if_neg (show ¬ (i32 c = 42) from c_eq (b := 42) e1 (by omega) (by omega))]
      by_cases e2 : c = 44
      · subst e2
        rw [if_pos (show i32 44 = 44 from rfl), if_neg (show ¬ ((0 : Int32) = 83) from by decide), if_neg (show ¬ (i32 44 = 92) from by decide)]
      · rw [if_neg (show ¬ (i32 c = 44) from c_eq (b := 44) e2 (by omega) (by omega))]
        by_cases e3 : c = 92
        · subst e3
          rw [if_pos (show i32 92 = 92 from rfl), if_neg (show ¬ ((0 : Int32) = 80) from by decide)]
        · rw [if_neg (show ¬ (i32 c = 92) from c_eq (b := 92) e3 (by omega) (by omega))]
  · rw [if_pos (show σ.1 47 = 3 from h4), if_neg (show ¬ ((1 : Int32) = 0) from by decide), h5, if_pos (c_ix (show q < aln 1 from h6) (by omega))]
    unfold B_readsGiven_31 B_readsGiven_82 B_readsGiven_133 B_readsGiven_260
    rw [if_neg (show ¬ (i32 c = 42) from c_eq (b := 42) h1 (by omega) (by omega)), if_neg (show ¬ (i32 c = 44) from c_eq (b := 44) h2 (by omega) (by omega)), if_neg (show ¬ (i32 c = 92) from c_eq (b := 92) h3 (by omega) (by omega))]
end STEPS
theorem Need_given (hw : WL L ents tx) {vt : List Rq} {σ : MS} {V E T p nd : Nat} {rq : Rq} (hN : Need L σ V E T vt nd rq) (hT : T ≤ 9300) (h3 : nd = 3 → byt tx p ≠ 42 ∧ byt tx p ≠ 44 ∧ byt tx p ≠ 92) : (∃ nd, nd < 3 ∧ σ.1 47 = i32 nd) ∨ (byt tx p ≠ 42 ∧ byt tx p ≠ 44 ∧ byt tx p ≠ 92 ∧ σ.1 47 = i32 3 ∧ ∃ q, σ.1 48 = i32 q ∧ q < 9400) := by
  rcases hN with ⟨a, b⟩ | ⟨a, b, c, q, e, d, _, _, _, f, _⟩
  · exact Or.inl ⟨nd, a, b⟩
  · obtain ⟨x, y, z⟩ := h3 a
    exact Or.inr ⟨x, y, z, b, q, d, by omega⟩
/-- what can't stand here -/
theorem CI_no (hw : WL L ents tx) {vt : List Rq} {rq : Rq} {nd p V E T P F : Nat} {σ : MS} (hb : Beg L ents tx vt σ p V E T P F 0) (hN : Need L σ V E T vt nd rq) (h3 : nd = 3 → byt tx p ≠ 42 ∧ byt tx p ≠ 44 ∧ byt tx p ≠ 92) (hc : ¬ stands L vt.length (byt tx p)) (h35 : byt tx p ≠ 35) : RunE σ F V E T p := by
  have hb' := hb
  obtain ⟨hv, hs, hd, h44, hP, hpl, h45, h52, hF⟩ := hb
  have hl := hw.2.2.2.1
  obtain ⟨G, rfl⟩ : ∃ G, F = G + 1 := ⟨F - 1, by omega⟩
  by_cases hp : p < tx.length
  · have h56 := hd.2.2.2.2.1
    have h57 := hd.2.2.2.2.2.1
    have hT := hd.2.2.2.2.2.2.2.2.2.1
    refine E1 (τ := setF σ 57 (i32 p)) (by omega) (by omega) ?_ (setF_eq _ _ _) (kp_setF _ _ _ _ _ _) (ch_setF _ _ (by simp [FR]))
    rw [rd_given hw hb' hp hc h35, m_given0 (byt_256 hw hp) (Need_given hw hN (by omega) h3), Option.bind_some]
    dsimp only
    rw [if_pos rfl, h56, m_fails _ h57]
    rfl
  · exact rd_end hw hb' (by omega)
/-- an entry -/
theorem CI_entry (hw : WL L ents tx) {vt : List Rq} {rq : Rq} {nd p V E T P F : Nat} {σ : MS} (hb : Beg L ents tx vt σ p V E T P F 0) (hN : Need L σ V E T vt nd rq) (hc : byt tx p = 35) : RunI L ents tx vt σ p V E T P F nd rq (match (if 48 ≤ byt tx (p + 1) then ents[byt tx (p + 1) - 48]? else none) with
      | some e => stl (nft e.1 [] vt.length) (qs (shp e.1) (evD e.2 []) vt.length) vt.length p (p + 2)
      | none => .error (p + 1)) := by
  have hb' := hb
  obtain ⟨hv, hs, hd, h44, hP, hpl, h45, h52, hF⟩ := hb
  have hl := hw.2.2.2.1
  have hp : p < tx.length := byt_lt (by omega)
  obtain ⟨G, rfl⟩ : ∃ G, F = G + 1 := ⟨F - 1, by omega⟩
  have step := rd_35 hw hb' hp hc
  obtain ⟨d1, d19, d21, d46, d56, d57, dV, dE, dT, dT2, dV0, dE0, dn⟩ := hd
  cases he : (if 48 ≤ byt tx (p + 1) then ents[byt tx (p + 1) - 48]? else none) with
  | none =>
    have e := m_readsEntry0 hw hs d56 d57 hp he
    rw [e, Option.bind_some] at step
    exact E1 (by omega) (by omega) step (setF_eq _ _ _) (kp_tr (kp_setF _ 56 _ V E T) (kp_setF _ 57 _ V E T) (Nat.le_refl _) (Nat.le_refl _) (Nat.le_refl _)) (ch_tr (ch_setF _ _ (by simp [FR])) (ch_setF _ _ (by simp [FR])))
  | some e =>
    obtain ⟨hlt, hf⟩ := m_readsEntry1 hw hs hv rfl hN d1 d19 d21 d46 d56 d57 hp he (by omega) (by omega) (by omega) dV0 dE0 dT
    have g1 : GR σ (setF (setF σ 56 (i32 (p + 1))) 56 (i32 (p + 2))) V E T P := GR_tr (GR_F σ _ (by simp [FR]) V E T P) (GR_F _ _ (by simp [FR]) V E T P) (Nat.le_refl _) (Nat.le_refl _) (Nat.le_refl _) (Nat.le_refl _)
    exact FndRun hw step (by omega) (by omega) (by omega) (by omega) (by omega) g1 (RS_kp hw hs g1.1 dV0 dE0 dT g1.2.1) (by rw [setF_ne _ _ (by decide), setF_ne _ _ (by decide)]; exact h44) (by rw [setF_ne _ _ (by decide), setF_ne _ _ (by decide)]; exact d46) (setF_eq _ _ _) (fun k rq hk => nt_kp (dn k rq hk) g1.1 (Nat.le_refl _)) (Nat.le_refl _) (by omega) (Nat.le_refl _) (by omega) (Nat.le_refl _) (by omega) dV dE dT dT2 dV0 dE0 hf
end MREAD5

section TOP11
noncomputable def aEnters (s : Sta) : Int32 × Sta := if s.en.length = 6 then (-3, s) else (match spG s.L s.en s.tx false with | .ok y => (i32 (s.en.length + 1), ([], s.L, s.en ++ [(y.1, y.2.1)], s.sg, (s.en :: s.un).take 8, s.im)) | .error e => (flt e, s))
def aDrops (x : Int32) (s : Sta) : Int32 × Sta := if inR x s.en.length then (i32 (s.en.length - 1), (s.tx, s.L, s.en.eraseIdx x.toNatClampNeg, s.sg, (s.en :: s.un).take 8, s.im)) else (-1, s)
def aUndo (s : Sta) : Int32 × Sta := match s.un with | [] => (-2, s) | p :: r => (i32 r.length, (s.tx, s.L, p, s.sg, r, s.im))
noncomputable def aSees (x : Int32) (s : Sta) : Int32 × Sta := if inR x 3 then (if s.sg.length = 4 then (-3, s) else (match spG s.L s.en s.tx false with | .ok y => (i32 (s.sg.length + 1), ([], s.L, s.en, s.sg ++ [(x.toNatClampNeg, (y.1, y.2.1))], s.un, s.im)) | .error e => (flt e, s))) else (-1, s)
theorem un7 {L : Lw} {un : List Ens} (h : ∀ l ∈ un, ensOK L l) : ∀ l ∈ un.take 7, ensOK L l := fun l hl => h l (List.mem_of_mem_take hl)
theorem m_enters {σ : MS} {s : Sta} (hs : SOK s) (h : MA σ s) : MO (f_enters σ) (aEnters s) := by
  unfold f_enters aEnters
  have hn := hs.2.2.2.1.1
  rw [h.2.2.1.1]
  by_cases h6 : s.en.length = 6
  · rw [if_pos h6, if_pos (show i32 s.en.length = 6 by rw [h6]; rfl)]
    exact ⟨σ, rfl, h⟩
  · rw [if_neg h6, if_neg (show ¬ (i32 s.en.length = 6) from c_eq (b := 6) h6 (by omega) (by omega))]
    obtain ⟨τ, e1, m, h2⟩ := m_rt hs h false
    rw [if_neg (show ¬ (false = true) by decide)] at e1
    rw [e1, Option.bind_some]
    dsimp only
    have hA := MA_MF hs h m
    cases hsp : spG s.L s.en s.tx false with
    | error e =>
      rw [hsp] at h2
      obtain ⟨he, h57⟩ := h2
      rw [h57, if_neg (nlt0 (by omega))]
      exact ⟨τ, rfl, hA⟩
    | ok y =>
      rw [hsp] at h2
      obtain ⟨h57, T, g, hh, kk, hT, a58, a2, a3, a59, a5, a6, _, _, _, a7, a8⟩ := h2
      have ho := (okG (SOK_WL hs) hsp).1
      obtain ⟨τ1, τ2, s1, s2, s3, s4, s5, s6⟩ := m_slots (e := (y.1, y.2.1)) (b := 357 + 102 * s.en.length) (MA_pr hs hA ho) (ent_ln ho) a2 a5 a7 (by omega) a8 (by omega) (by omega)
      rw [h57, if_pos n9lt, a58, hA.2.2.1.1, show (357 : Int32) + 102 * i32 s.en.length = i32 (357 + 102 * s.en.length) by simp only [z357, z102, z_mul, z_add], s1, Option.bind_some]
      dsimp only
      rw [s3, a59, hA.2.2.1.1, show (357 : Int32) + 102 * i32 s.en.length + 51 = i32 (357 + 102 * s.en.length + 51) by simp only [z357, z102, z51, z_mul, z_add], s2, Option.bind_some]
      dsimp only
      obtain ⟨q1, q2, q3, q4⟩ := s4
      obtain ⟨h1, h2, h3, h4, h5, h6', h7⟩ := hA
      have hU : MAu τ2 s.en s.un := MAu_x h6' (by rw [q1]) (q3 5 (by decide)) (q3 6 (by decide)) (q3 7 (by decide))
      obtain ⟨υ, u1, r1, r2, r3, r4, r5, r6, r7, r8⟩ := m_notes (L := s.L) (k := 0) (w := s.en.length) hs.2.2.2.2.2.1.1 (by omega) hs.2.2.2.2.2.1.2 hU
      rw [q1, h3.1, u1, Option.bind_some]
      dsimp only
      have w8 : (setF (setF υ 8 (υ.1 8 + 1)) 3 0).1 8 = i32 (s.en.length + 1) := by rw [setF_ne _ _ (by decide), setF_eq, r1 8 (by decide), q1, h3.1, z1, z_add]
      have wf : ∀ i, i ≠ 3 → i ≠ 8 → i ≠ 15 → (setF (setF υ 8 (υ.1 8 + 1)) 3 0).1 i = τ.1 i := fun i i3 i8 i15 => by rw [setF_ne _ _ i3, setF_ne _ _ i8, r1 i i15, q1]
      have w1 : (setF (setF υ 8 (υ.1 8 + 1)) 3 0).2.1 1 = τ2.2.1 1 := r3 1 (by decide) (by decide) (by decide)
      have wr : ∀ c, c ≠ 1 → c ≠ 5 → c ≠ 6 → c ≠ 7 → (setF (setF υ 8 (υ.1 8 + 1)) 3 0).2.1 c = τ.2.1 c := fun c c1 c5 c6 c7 => (r3 c c5 c6 c7).trans (q3 c c1)
      refine ⟨setF (setF υ 8 (υ.1 8 + 1)) 3 0, by rw [w8], MAt_nil _, MAl_x hs.2.2.1 h2 (wf 4 (by decide) (by decide) (by decide)) (wf 5 (by decide) (by decide) (by decide)) (wf 7 (by decide) (by decide) (by decide)) (wr 3 (by decide) (by decide) (by decide) (by decide)) (fun i hi => by rw [w1, q4 i (by omega)]), ⟨?_, ?_⟩, MAn_x h4 (fun k _ => by show υ.2.2 k = _; rw [r2, q2]) (fun k _ => by rw [wr 11 (by decide) (by decide) (by decide) (by decide)]), MAs_x hs.2.2.2.2.1 h5 (wf 10 (by decide) (by decide) (by decide)) (wr 4 (by decide) (by decide) (by decide) (by decide)) (fun i hi hi2 => by rw [w1, q4 i (by omega)]), ⟨?_, ?_⟩, MAi_x h7 (wr 8 (by decide) (by decide) (by decide) (by decide)) (wr 9 (by decide) (by decide) (by decide) (by decide))⟩
      · rw [w8]; exact congrArg i32 (List.length_append (as := s.en) (bs := [(y.1, y.2.1)])).symm
      · intro e x hx
        rw [w1]
        have hx' : (s.en ++ [(y.1, y.2.1)])[e]? = some x := hx
        by_cases hel : e < s.en.length
        · rw [List.getElem?_append_left hel] at hx'
          obtain ⟨n1, n2⟩ := ent_ln (hs.2.2.2.1.2 x (List.mem_of_getElem? hx'))
          exact ⟨fm_sh (fun k hk => q4 _ (by omega)) (h3.2 e x hx').1, fm_sh (fun k hk => q4 _ (by omega)) (h3.2 e x hx').2⟩
        · have hlt := (List.getElem?_eq_some_iff.mp hx').1
          rw [List.length_append, List.length_singleton] at hlt
          obtain rfl : e = s.en.length := by omega
          rw [List.getElem?_append_right (Nat.le_refl _), Nat.sub_self] at hx'
          obtain rfl : (y.1, y.2.1) = x := by simpa using hx'
          exact ⟨s5, s6⟩
      · rw [setF_ne _ _ (by decide), setF_ne _ _ (by decide), r4, List.take_succ_cons]; rfl
      · show UM _ _ _ (s.en ++ [(y.1, y.2.1)]) ((s.en :: s.un).take 8)
        rw [List.take_succ_cons]
        exact ⟨Or.inl ⟨r5, r6, _, rfl⟩, r8⟩
theorem m_drops {σ : MS} {s : Sta} (hs : SOK s) (h : MA σ s) (x : Int32) : MO (f_drops x σ) (aDrops x s) := by
  have hE := hs.2.2.2.1
  have hn := hE.1
  unfold f_drops aDrops
  rw [m_isEntry h.2.2.1.1 (by omega), Option.bind_some]
  dsimp only
  by_cases hx : inR x s.en.length
  · rw [if_pos hx, if_pos hx, if_neg (show ¬ ((1 : Int32) = 0) from by decide)]
    have ex := inR_e hx
    have hxl := hx.2
    generalize x.toNatClampNeg = w at ex hxl
    subst ex
    obtain ⟨h1, h2, h3, h4, h5, h6, h7⟩ := h
    obtain ⟨υ, u1, r1, r2, r3, r4, r5, r6, r7, r8⟩ := m_notes (L := s.L) (k := 1) (w := w) hs.2.2.2.2.2.1.1 (by omega) hs.2.2.2.2.2.1.2 h6
    rw [u1, Option.bind_some]
    dsimp only
    have hE3 : MAe υ s.en := MAe_x hE h3 (r1 8 (by decide)) (fun i _ _ => by rw [r3 1 (by decide) (by decide) (by decide)])
    obtain ⟨τ, t1, t2, t3, t4, t5, t6⟩ := m_goes hE hE3 hxl
    rw [t1, Option.bind_some]
    dsimp only
    have hf : ∀ i, i ≠ 8 → i ≠ 15 → τ.1 i = σ.1 i := fun i a b => (t2 i a).trans (r1 i b)
    have hr : ∀ c, c ≠ 1 → c ≠ 5 → c ≠ 6 → c ≠ 7 → τ.2.1 c = σ.2.1 c := fun c c1 c5 c6 c7 => (t4 c c1).trans (r3 c c5 c6 c7)
    have h1r : ∀ q, q < 357 ∨ 969 ≤ q → τ.2.1 1 q = σ.2.1 1 q := fun q hq => by rw [t5 q hq, r3 1 (by decide) (by decide) (by decide)]
    refine ⟨τ, by rw [t6.1, List.length_eraseIdx, if_pos hxl], MAt_x h1 (hf 3 (by decide) (by decide)) (hr 2 (by decide) (by decide) (by decide) (by decide)), MAl_x hs.2.2.1 h2 (hf 4 (by decide) (by decide)) (hf 5 (by decide) (by decide)) (hf 7 (by decide) (by decide)) (hr 3 (by decide) (by decide) (by decide) (by decide)) (fun i hi => h1r i (Or.inl hi)), t6, MAn_x h4 (fun k _ => by rw [t3, r2]) (fun k _ => by rw [hr 11 (by decide) (by decide) (by decide) (by decide)]), MAs_x hs.2.2.2.2.1 h5 (hf 10 (by decide) (by decide)) (hr 4 (by decide) (by decide) (by decide) (by decide)) (fun i _ _ => h1r i (Or.inr (by omega))), ⟨?_, ?_⟩, MAi_x h7 (hr 8 (by decide) (by decide) (by decide) (by decide)) (hr 9 (by decide) (by decide) (by decide) (by decide))⟩
    · rw [t2 15 (by decide), r4]
      show _ = i32 ((s.en :: s.un).take 8).length
      rw [List.take_succ_cons]; rfl
    · show UM _ _ _ (s.en.eraseIdx w) ((s.en :: s.un).take 8)
      rw [List.take_succ_cons, t4 5 (by decide), t4 6 (by decide), t4 7 (by decide)]
      have hg : s.en[w]? = some s.en[w] := List.getElem?_eq_getElem hxl
      obtain ⟨n1, n2⟩ := ent_ln (hE.2 _ (List.getElem_mem hxl))
      exact ⟨Or.inr ⟨r5, w, s.en[w], hg, rfl, r6, fm_sh (fun k hk => r7 k (by omega)) (h3.2 w _ hg).1, fm_sh (fun k hk => by rw [Nat.add_assoc, r7 _ (by omega), ← Nat.add_assoc]) (h3.2 w _ hg).2⟩, r8⟩
  · rw [if_neg hx, if_neg hx, if_pos rfl]
    exact ⟨σ, rfl, h⟩
/-- the entries behind a place move up by one -/
theorem m_undo_l {L : Lw} {σ : MS} {p : Ens} {e : Tr × Tr} {w r : Nat} (ho : ensOK L p) (hw : p[w]? = some e) (hr : r < 8) (h8 : σ.1 8 = i32 (p.length - 1)) (h15 : σ.1 15 = i32 r) (hc : fm (σ.2.1 7) e.1 (102 * r) ∧ fm (σ.2.1 7) e.2 (102 * r + 51)) : ∀ (d F x2 : Nat) (τ : MS), x2 = w + d → x2 ≤ p.length - 1 → d < F → τ.1 = σ.1 → τ.2.2 = σ.2.2 → (∀ c, c ≠ 1 → τ.2.1 c = σ.2.1 c) → (∀ q, q < 357 ∨ 969 ≤ q → τ.2.1 1 q = σ.2.1 1 q) → (∀ (i : Nat) (x : Tr × Tr), (p.eraseIdx w)[i]? = some x → i < x2 → fm (τ.2.1 1) x.1 (357 + 102 * i) ∧ fm (τ.2.1 1) x.2 (357 + 102 * i + 51)) → (∀ (i : Nat) (x : Tr × Tr), p[i]? = some x → x2 < i → fm (τ.2.1 1) x.1 (357 + 102 * i) ∧ fm (τ.2.1 1) x.2 (357 + 102 * i + 51)) → ∃ υ, L_undo_57 F (i32 w) (i32 x2) τ = some (i32 r, υ) ∧ (∀ i, i ≠ 8 → υ.1 i = σ.1 i) ∧ υ.2.2 = σ.2.2 ∧ (∀ c, c ≠ 1 → υ.2.1 c = σ.2.1 c) ∧ (∀ q, q < 357 ∨ 969 ≤ q → υ.2.1 1 q = σ.2.1 1 q) ∧ MAe υ p := by
  have hn := ho.1
  have hwl := (List.getElem?_eq_some_iff.mp hw).1
  intro d
  induction d with
  | zero =>
    intro F x2 τ hx hx2 hF t1 t2 t3 t4 t5 t6
    obtain ⟨F, rfl⟩ : ∃ F', F = F' + 1 := ⟨F - 1, by omega⟩
    obtain rfl : x2 = w := by omega
    rw [L_undo_57, if_pos (show i32 x2 ≤ i32 x2 from Int32.le_refl _), t1, h15]
    have hb : f_bring 7 (102 * i32 r) 1 (357 + 102 * i32 x2) 102 τ = some (0, brg τ 7 (102 * r) 1 (357 + 102 * x2) 102) := by
      rw [z357, z102, z_mul, z_mul, z_add]
      exact m_bring _ (show 102 * r + 102 ≤ aln 7 from Nat.le_trans (show 102 * r + 102 ≤ 816 by omega) (Nat.le_refl _)) (show 357 + 102 * x2 + 102 ≤ aln 1 from Nat.le_trans (show 357 + 102 * x2 + 102 ≤ 9400 by omega) (Nat.le_refl _)) (Or.inl (by decide))
    rw [hb, Option.bind_some]
    dsimp only
    have o1 : ∀ k, k < 102 → (brg τ 7 (102 * r) 1 (357 + 102 * x2) 102).2.1 1 (357 + 102 * x2 + k) = σ.2.1 7 (102 * r + k) := fun k hk => by rw [brg_in _ _ _ _ _ _ _ hk, t3 7 (by decide)]
    have o2 : ∀ q, q < 357 + 102 * x2 ∨ 357 + 102 * x2 + 102 ≤ q → (brg τ 7 (102 * r) 1 (357 + 102 * x2) 102).2.1 1 q = τ.2.1 1 q := fun q hq => brg_out _ _ _ _ _ _ hq
    have oo : ∀ c, c ≠ 1 → (brg τ 7 (102 * r) 1 (357 + 102 * x2) 102).2.1 c = σ.2.1 c := fun c hc => (brg_ne _ _ _ _ _ _ hc).trans (t3 c hc)
    have of : (brg τ 7 (102 * r) 1 (357 + 102 * x2) 102).1 = σ.1 := t1
    have ol : (brg τ 7 (102 * r) 1 (357 + 102 * x2) 102).2.2 = σ.2.2 := t2
    generalize brg τ 7 (102 * r) 1 (357 + 102 * x2) 102 = υ at o1 o2 oo of ol
    refine ⟨setF υ 8 (υ.1 8 + 1), by rw [setF_ne _ _ (by decide), of, h15], fun i hi => by rw [setF_ne _ _ hi, of], ol, oo, fun q hq => by show υ.2.1 1 q = _; rw [o2 q (by omega), t4 q hq], by rw [setF_eq, of, h8, z1, z_add]; congr 1; omega, fun i x hi => ?_⟩
    have hil := (List.getElem?_eq_some_iff.mp hi).1
    obtain ⟨n1, n2⟩ := ent_ln (ho.2 x (List.mem_of_getElem? hi))
    show fm (υ.2.1 1) _ _ ∧ fm (υ.2.1 1) _ _
    rcases Nat.lt_trichotomy i x2 with hlt | rfl | hgt
    · have := t5 i x (by rw [List.getElem?_eraseIdx, if_pos hlt]; exact hi) hlt
      exact ⟨fm_sh (fun k hk => o2 _ (by omega)) this.1, fm_sh (fun k hk => o2 _ (by omega)) this.2⟩
    · rw [hw] at hi
      obtain rfl : e = x := by simpa using hi
      exact ⟨fm_sh (fun k hk => o1 k (by omega)) hc.1, fm_sh (fun k hk => by rw [Nat.add_assoc, o1 _ (by omega), Nat.add_assoc]) hc.2⟩
    · have := t6 i x hi hgt
      exact ⟨fm_sh (fun k hk => o2 _ (by omega)) this.1, fm_sh (fun k hk => o2 _ (by omega)) this.2⟩
  | succ d ih =>
    intro F x2 τ hx hx2 hF t1 t2 t3 t4 t5 t6
    obtain ⟨F, rfl⟩ : ∃ F', F = F' + 1 := ⟨F - 1, by omega⟩
    obtain ⟨y, rfl⟩ : ∃ y, x2 = y + 1 := ⟨w + d, by omega⟩
    rw [L_undo_57, if_neg (show ¬ (i32 (y + 1) ≤ i32 w) by rw [z_le (by omega) (by omega)]; omega)]
    have hb : f_bring 1 (357 + 102 * (i32 (y + 1) - 1)) 1 (357 + 102 * i32 (y + 1)) 102 τ = some (0, brg τ 1 (357 + 102 * y) 1 (357 + 102 * (y + 1)) 102) := by
      rw [z_sub1, z357, z102, z_mul, z_mul, z_add, z_add]
      exact m_bring _ (show 357 + 102 * y + 102 ≤ aln 1 from Nat.le_trans (show 357 + 102 * y + 102 ≤ 9400 by omega) (Nat.le_refl _)) (show 357 + 102 * (y + 1) + 102 ≤ aln 1 from Nat.le_trans (show 357 + 102 * (y + 1) + 102 ≤ 9400 by omega) (Nat.le_refl _)) (Or.inr (Or.inr (by omega)))
    rw [hb, Option.bind_some]
    dsimp only
    have o1 : ∀ k, k < 102 → (brg τ 1 (357 + 102 * y) 1 (357 + 102 * (y + 1)) 102).2.1 1 (357 + 102 * (y + 1) + k) = τ.2.1 1 (357 + 102 * y + k) := fun k hk => brg_in _ _ _ _ _ _ _ hk
    have o2 : ∀ q, q < 357 + 102 * (y + 1) ∨ 357 + 102 * (y + 1) + 102 ≤ q → (brg τ 1 (357 + 102 * y) 1 (357 + 102 * (y + 1)) 102).2.1 1 q = τ.2.1 1 q := fun q hq => brg_out _ _ _ _ _ _ hq
    have oo : ∀ c, c ≠ 1 → (brg τ 1 (357 + 102 * y) 1 (357 + 102 * (y + 1)) 102).2.1 c = σ.2.1 c := fun c hc => (brg_ne _ _ _ _ _ _ hc).trans (t3 c hc)
    have of : (brg τ 1 (357 + 102 * y) 1 (357 + 102 * (y + 1)) 102).1 = σ.1 := t1
    have ol : (brg τ 1 (357 + 102 * y) 1 (357 + 102 * (y + 1)) 102).2.2 = σ.2.2 := t2
    generalize brg τ 1 (357 + 102 * y) 1 (357 + 102 * (y + 1)) 102 = υ at o1 o2 oo of ol
    rw [z_pred]
    refine ih F y υ (by omega) (by omega) (by omega) of ol oo (fun q hq => by rw [o2 q (by omega), t4 q hq]) (fun i x hi hiy => ?_) (fun i x hi hiy => ?_)
    · have hi2 := List.mem_of_getElem? hi
      obtain ⟨n1, n2⟩ := ent_ln (ho.2 x (List.mem_of_mem_eraseIdx hi2))
      have := t5 i x hi (by omega)
      exact ⟨fm_sh (fun k hk => o2 _ (by omega)) this.1, fm_sh (fun k hk => o2 _ (by omega)) this.2⟩
    · obtain ⟨n1, n2⟩ := ent_ln (ho.2 x (List.mem_of_getElem? hi))
      have hil := (List.getElem?_eq_some_iff.mp hi).1
      by_cases hiy2 : i = y + 1
      · subst hiy2
        have := t5 y x (by rw [List.getElem?_eraseIdx, if_neg (by omega)]; exact hi) (by omega)
        exact ⟨fm_sh (fun k hk => o1 k (by omega)) this.1, fm_sh (fun k hk => by rw [Nat.add_assoc, o1 _ (by omega), ← Nat.add_assoc]) this.2⟩
      · have := t6 i x hi (by omega)
        exact ⟨fm_sh (fun k hk => o2 _ (by omega)) this.1, fm_sh (fun k hk => o2 _ (by omega)) this.2⟩
theorem m_undo {σ : MS} {s : Sta} (hs : SOK s) (h : MA σ s) : MO (f_undo σ) (aUndo s) := by
  unfold f_undo aUndo
  have hn := hs.2.2.2.2.2.1.1
  have hUo := hs.2.2.2.2.2.1.2
  rw [h.2.2.2.2.2.1.1]
  cases hu : s.un with
  | nil =>
    rw [if_pos (show i32 ([] : List Ens).length = 0 from rfl)]
    exact ⟨σ, rfl, h⟩
  | cons p r =>
    rw [hu] at hn hUo
    rw [List.length_cons] at hn ⊢
    obtain ⟨h1, h2, h3, h4, h5, h6, h7⟩ := h
    rw [hu] at h6
    obtain ⟨h15, hd, hr⟩ := h6
    rw [if_neg (show ¬ (i32 (r.length + 1) = 0) from c_eq (b := 0) (by omega) (by omega) (by omega)), z_sub1, setF_eq, z_nn (by omega), if_pos (c_ix (show r.length < aln 6 from Nat.lt_of_lt_of_le (show r.length < 8 by omega) (Nat.le_refl _)) (by omega)), if_pos (c_ix (show r.length < aln 5 from Nat.lt_of_lt_of_le (show r.length < 8 by omega) (Nat.le_refl _)) (by omega))]
    have hf : ∀ i, i ≠ 15 → (setF σ 15 (i32 r.length)).1 i = σ.1 i := fun i hi => setF_ne _ _ hi
    have hr2 : (setF σ 15 (i32 r.length)).2 = σ.2 := rfl
    have hE : MAe (setF σ 15 (i32 r.length)) s.en := MAe_x hs.2.2.2.1 h3 (hf 8 (by decide)) (fun _ _ _ => rfl)
    have h15' : (setF σ 15 (i32 r.length)).1 15 = i32 r.length := setF_eq _ _ _
    generalize setF σ 15 (i32 r.length) = τ at hf hr2 hE h15'
    rw [hr2]
    have hp := hUo p (List.mem_cons_self ..)
    have fin : ∀ υ : MS, (∀ i, i ≠ 8 → υ.1 i = τ.1 i) → υ.2.2 = τ.2.2 → (∀ c, c ≠ 1 → υ.2.1 c = τ.2.1 c) → (∀ q, q < 357 ∨ 969 ≤ q → υ.2.1 1 q = τ.2.1 1 q) → MAe υ p → MA υ (s.tx, s.L, p, s.sg, r, s.im) := by
      intro υ r1 r2 r3 r4 r5
      rw [hr2] at r2 r3 r4
      have ff : ∀ i, i ≠ 8 → i ≠ 15 → υ.1 i = σ.1 i := fun i a b => (r1 i a).trans (hf i b)
      exact ⟨MAt_x h1 (ff 3 (by decide) (by decide)) (r3 2 (by decide)), MAl_x hs.2.2.1 h2 (ff 4 (by decide) (by decide)) (ff 5 (by decide) (by decide)) (ff 7 (by decide) (by decide)) (r3 3 (by decide)) (fun i hi => r4 i (Or.inl hi)), r5, MAn_x h4 (fun k _ => by rw [r2]) (fun k _ => by rw [r3 11 (by decide)]), MAs_x hs.2.2.2.2.1 h5 (ff 10 (by decide) (by decide)) (r3 4 (by decide)) (fun i _ _ => r4 i (Or.inr (by omega))), ⟨by rw [r1 15 (by decide)]; exact h15', by rw [r3 5 (by decide), r3 6 (by decide), r3 7 (by decide)]; exact hr⟩, MAi_x h7 (r3 8 (by decide)) (r3 9 (by decide))⟩
    rcases hd with ⟨d1, d2, e, d3⟩ | ⟨d1, w, e, d2, d3, d4, d5, d6⟩
    · rw [d1, if_pos (show i32 0 = 0 from rfl), d2]
      obtain ⟨υ, t1, t2, t3, t4, t5, t6⟩ := m_goes (w := p.length) hs.2.2.2.1 hE (by rw [d3, List.length_append]; exact Nat.lt_succ_self _)
      rw [t1, Option.bind_some]
      dsimp only
      have ee : s.en.eraseIdx p.length = p := by rw [d3, List.eraseIdx_append_of_length_le (Nat.le_refl _), Nat.sub_self]; exact List.append_nil p
      rw [ee] at t6
      exact ⟨υ, by rw [t2 15 (by decide), h15'], fin υ t2 t3 t4 t5 t6⟩
    · have hwl := (List.getElem?_eq_some_iff.mp d2).1
      have hlen : s.en.length = p.length - 1 := by rw [d3, List.length_eraseIdx, if_pos hwl]
      have hpn := hp.1
      rw [d1, if_neg (show ¬ (i32 1 = 0) from by decide), d4, hE.1]
      obtain ⟨υ, t1, t2, t3, t4, t5, t6⟩ := m_undo_l (σ := τ) (r := r.length) hp d2 (by omega) (by rw [hE.1, hlen]) h15' (by rw [hr2]; exact ⟨d5, d6⟩) (p.length - 1 - w) 10000 s.en.length τ (by omega) (by omega) (Nat.lt_of_lt_of_le (show p.length - 1 - w < 10 by omega) (Nat.le_of_ble_eq_true rfl)) rfl rfl (fun _ _ => rfl) (fun _ _ => rfl) (fun i x hi _ => by rw [← d3] at hi; exact hE.2 i x hi) (fun i x hi hlt => absurd (List.getElem?_eq_some_iff.mp hi).1 (by omega))
      rw [t1]
      exact ⟨υ, rfl, fin υ t2 t3 t4 t5 t6⟩
theorem m_sees {σ : MS} {s : Sta} (hs : SOK s) (h : MA σ s) (x : Int32) : MO (f_sees x σ) (aSees x s) := by
  have hS := hs.2.2.2.2.1
  have hn := hS.1
  unfold f_sees aSees
  have e : f_in x 0 2 σ = some (if inR x 3 then 1 else 0, σ) := m_inL (n := 2) (by omega) σ
  rw [e, Option.bind_some]
  dsimp only
  by_cases hx : inR x 3
  · rw [if_pos hx, if_pos hx, if_neg (show ¬ ((1 : Int32) = 0) from by decide), h.2.2.2.2.1.1]
    by_cases h6 : s.sg.length = 4
    · rw [if_pos h6, if_pos (show i32 s.sg.length = 4 by rw [h6]; rfl)]
      exact ⟨σ, rfl, h⟩
    · rw [if_neg h6, if_neg (show ¬ (i32 s.sg.length = 4) from c_eq (b := 4) h6 (by omega) (by omega))]
      obtain ⟨τ, e1, m, h2⟩ := m_rt hs h false
      rw [if_neg (show ¬ (false = true) by decide)] at e1
      rw [e1, Option.bind_some]
      dsimp only
      have hA := MA_MF hs h m
      cases hsp : spG s.L s.en s.tx false with
      | error e =>
        rw [hsp] at h2
        obtain ⟨he, h57⟩ := h2
        rw [h57, if_neg (nlt0 (by omega))]
        exact ⟨τ, rfl, hA⟩
      | ok y =>
        rw [hsp] at h2
        obtain ⟨h57, T, g, hh, kk, hT, a58, a2, a3, a59, a5, a6, _, _, _, a7, a8⟩ := h2
        have ho := (okG (SOK_WL hs) hsp).1
        obtain ⟨τ1, τ2, s1, s2, s3, s4, s5, s6⟩ := m_slots (e := (y.1, y.2.1)) (b := 1326 + 102 * s.sg.length) (MA_pr hs hA ho) (ent_ln ho) a2 a5 a7 (by omega) a8 (by omega) (by omega)
        rw [h57, if_pos n9lt, a58, hA.2.2.2.2.1.1, show (1326 : Int32) + 102 * i32 s.sg.length = i32 (1326 + 102 * s.sg.length) by simp only [z1326, z102, z_mul, z_add], s1, Option.bind_some]
        dsimp only
        rw [s3, a59, hA.2.2.2.2.1.1, show (1326 : Int32) + 102 * i32 s.sg.length + 51 = i32 (1326 + 102 * s.sg.length + 51) by simp only [z1326, z102, z51, z_mul, z_add], s2, Option.bind_some]
        dsimp only
        obtain ⟨q1, q2, q3, q4⟩ := s4
        obtain ⟨h1, h2, h3, h4, h5, h6', h7⟩ := hA
        rw [q1, h5.1, z_nn (by omega), if_pos (c_ix (show s.sg.length < aln 4 from Nat.lt_of_lt_of_le (show s.sg.length < 4 by omega) (Nat.le_refl _)) (by omega))]
        have p10 : (setA τ2 4 s.sg.length x).1 10 = i32 s.sg.length := by show τ2.1 10 = _; rw [q1, h5.1]
        rw [p10]
        have w10 : (setF (setF (setA τ2 4 s.sg.length x) 10 (i32 s.sg.length + 1)) 3 0).1 10 = i32 (s.sg.length + 1) := by rw [setF_ne _ _ (by decide), setF_eq, z1, z_add]
        have wf : ∀ i, i ≠ 3 → i ≠ 10 → (setF (setF (setA τ2 4 s.sg.length x) 10 (i32 s.sg.length + 1)) 3 0).1 i = τ.1 i := fun i i3 i10 => by rw [setF_ne _ _ i3, setF_ne _ _ i10]; show τ2.1 i = _; rw [q1]
        have wr : ∀ c, c ≠ 4 → (setF (setF (setA τ2 4 s.sg.length x) 10 (i32 s.sg.length + 1)) 3 0).2.1 c = τ2.2.1 c := fun c c4 => by funext i; show (setA τ2 4 s.sg.length x).2.1 c i = _; rw [setA_ne _ _ (Or.inl c4)]
        have w4 : ∀ i, (setF (setF (setA τ2 4 s.sg.length x) 10 (i32 s.sg.length + 1)) 3 0).2.1 4 i = if i = s.sg.length then x else τ.2.1 4 i := fun i => by
          show (setA τ2 4 s.sg.length x).2.1 4 i = _
          by_cases hi : i = s.sg.length
          · rw [if_pos hi, hi, setA_at]
          · rw [if_neg hi, setA_ne _ _ (Or.inr hi), q3 4 (by decide)]
        have wl : (setF (setF (setA τ2 4 s.sg.length x) 10 (i32 s.sg.length + 1)) 3 0).2.2 = τ.2.2 := q2
        have w3 : (setF (setF (setA τ2 4 s.sg.length x) 10 (i32 s.sg.length + 1)) 3 0).1 3 = 0 := setF_eq _ _ _
        generalize setF (setF (setA τ2 4 s.sg.length x) 10 (i32 s.sg.length + 1)) 3 0 = υ at w3 w10 wf wr w4 wl ⊢
        refine ⟨υ, by rw [w10], ⟨by rw [w3]; rfl, fun k hk => absurd hk (Nat.not_lt_zero _)⟩, MAl_x hs.2.2.1 h2 (wf 4 (by decide) (by decide)) (wf 5 (by decide) (by decide)) (wf 7 (by decide) (by decide)) (by rw [wr 3 (by decide), q3 3 (by decide)]) (fun i hi => by rw [wr 1 (by decide), q4 i (by omega)]), MAe_x hs.2.2.2.1 h3 (wf 8 (by decide) (by decide)) (fun i _ hi => by rw [wr 1 (by decide), q4 i (by omega)]), MAn_x h4 (fun k _ => by rw [wl]) (fun k _ => by rw [wr 11 (by decide), q3 11 (by decide)]), ⟨?_, ?_⟩, MAu_x h6' (wf 15 (by decide) (by decide)) (by rw [wr 5 (by decide), q3 5 (by decide)]) (by rw [wr 6 (by decide), q3 6 (by decide)]) (by rw [wr 7 (by decide), q3 7 (by decide)]), MAi_x h7 (by rw [wr 8 (by decide), q3 8 (by decide)]) (by rw [wr 9 (by decide), q3 9 (by decide)])⟩
        · rw [w10]; exact congrArg i32 (List.length_append (as := s.sg) (bs := [(x.toNatClampNeg, (y.1, y.2.1))])).symm
        · intro i z hz
          rw [wr 1 (by decide), w4]
          have hz' : (s.sg ++ [(x.toNatClampNeg, (y.1, y.2.1))])[i]? = some z := hz
          by_cases hil : i < s.sg.length
          · rw [List.getElem?_append_left hil] at hz'
            obtain ⟨n1, n2⟩ := ent_ln (hS.2 z (List.mem_of_getElem? hz')).2
            rw [if_neg (by omega)]
            exact ⟨(h5.2 i z hz').1, fm_sh (fun k hk => q4 _ (by omega)) (h5.2 i z hz').2.1, fm_sh (fun k hk => q4 _ (by omega)) (h5.2 i z hz').2.2⟩
          · have hlt := (List.getElem?_eq_some_iff.mp hz').1
            rw [List.length_append, List.length_singleton] at hlt
            obtain rfl : i = s.sg.length := by omega
            rw [List.getElem?_append_right (Nat.le_refl _), Nat.sub_self] at hz'
            obtain rfl : (x.toNatClampNeg, (y.1, y.2.1)) = z := by simpa using hz'
            rw [if_pos rfl]
            exact ⟨inR_e hx, s5, s6⟩
  · rw [if_neg hx, if_neg hx, if_pos rfl]
    exact ⟨σ, rfl, h⟩
end TOP11

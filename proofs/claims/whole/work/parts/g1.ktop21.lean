section KTOP21
/-- cells are made: what stood before stays -/
def GH (σ τ : CS) : Prop := ndC σ ≤ ndC τ ∧ ∀ j, j < 49 + ndC σ → knd τ j = knd σ j ∧ lnC τ j = lnC σ j ∧ τ.1 j = σ.1 j ∧ τ.2.1 j = σ.2.1 j
theorem GH_rf (σ : CS) : GH σ σ := ⟨Nat.le_refl _, fun _ _ => ⟨rfl, rfl, rfl, rfl⟩⟩
theorem GH_tr {σ τ υ : CS} (h : GH σ τ) (g : GH τ υ) : GH σ υ := ⟨Nat.le_trans h.1 g.1, fun j hj => by
  obtain ⟨a1, a2, a3, a4⟩ := h.2 j hj
  have hn := h.1
  obtain ⟨b1, b2, b3, b4⟩ := g.2 j (by omega)
  exact ⟨b1.trans a1, b2.trans a2, b3.trans a3, b4.trans a4⟩⟩
theorem GH_nw (σ : CS) (K n : Nat) : GH σ (nwC σ K n) := ⟨by show ndC σ ≤ ndC σ + 1; omega, fun j hj => by
  have h : j ≠ 49 + ndC σ := by omega
  exact ⟨by simp [knd, nwC, h], by simp [lnC, nwC, h], by simp [nwC, h], by simp [nwC, h]⟩⟩
/-- a cell made since is written -/
theorem GH_sR {σ τ : CS} (h : GH σ τ) {t : Nat} (ht : 49 + ndC σ ≤ t) (k : Nat) (x : Option Nat) : GH σ (sR τ t k x) := ⟨h.1, fun j hj => by
  obtain ⟨a1, a2, a3, a4⟩ := h.2 j hj
  exact ⟨a1, a2, a3, by rw [sR_row _ _ _ (show j ≠ t by omega)]; exact a4⟩⟩
theorem GH_sI {σ τ : CS} (h : GH σ τ) {t : Nat} (ht : 49 + ndC σ ≤ t) (k : Nat) (x : Int32) : GH σ (sI τ t k x) := ⟨h.1, fun j hj => by
  obtain ⟨a1, a2, a3, a4⟩ := h.2 j hj
  exact ⟨a1, a2, by rw [sI_row _ _ (show j ≠ t by omega)]; exact a3, a4⟩⟩
theorem GH_sA {σ τ : CS} (h : GH σ τ) {t : Nat} (ht : 49 + ndC σ ≤ t) (f : Nat → Int32) : GH σ (sA τ t f) := ⟨h.1, fun j hj => by
  obtain ⟨a1, a2, a3, a4⟩ := h.2 j hj
  exact ⟨a1, a2, by show (if j = t then f else τ.1 j) = _; rw [if_neg (by omega)]; exact a3, a4⟩⟩
theorem GH_okc {σ τ : CS} (h : GH σ τ) {j K : Nat} (ho : okc σ j K = true) : okc τ j K = true := by
  have hj := okc_lt ho
  have hk := okc_k ho
  simp only [okc, Bool.and_eq_true, decide_eq_true_eq, beq_iff_eq]
  exact ⟨by have := h.1; omega, by rw [(h.2 j hj).1]; exact hk⟩
theorem GH_okr {σ τ : CS} (h : GH σ τ) {r : Option Nat} {K : Nat} (ho : okr σ r K = true) : okr τ r K = true := by
  cases r with
  | none => rfl
  | some a => exact GH_okc h ho
theorem GH_lnC {σ τ : CS} (h : GH σ τ) {j K : Nat} (ho : okc σ j K = true) : lnC τ j = lnC σ j := (h.2 j (okc_lt ho)).2.1
theorem GH_rfv {σ τ : CS} (h : GH σ τ) {j K : Nat} (ho : okc σ j K = true) (k : Nat) : rfv τ j k = rfv σ j k := rfv_hi (h.2 j (okc_lt ho)).2.2.2 k
theorem GH_I {σ τ : CS} (h : GH σ τ) {j K : Nat} (ho : okc σ j K = true) : τ.1 j = σ.1 j := (h.2 j (okc_lt ho)).2.2.1
theorem GH_lo {σ τ : CS} (h : GH σ τ) {j : Nat} (hj : j < 49) : sm σ τ j := (h.2 j (by omega)).2.2
theorem formK_H {σ τ : CS} {f : Nat} {t : Tr} (h : formK σ f t) (g : GH σ τ) : formK τ f t := by
  obtain ⟨a1, r, a2, a3, a4, a5, a6⟩ := h
  exact ⟨GH_okc g a1, r, by rw [GH_rfv g a1]; exact a2, a3, GH_okc g a4, by rw [GH_lnC g a4]; exact a5, fun k hk => by rw [GH_I g a4]; exact a6 k hk⟩
theorem entK_H {σ τ : CS} {c : Nat} {x : Tr × Tr} (h : entK σ c x) (g : GH σ τ) : entK τ c x := by
  obtain ⟨a1, f, k, a2, a3, a4, a5⟩ := h
  exact ⟨GH_okc g a1, f, k, by rw [GH_rfv g a1]; exact a2, by rw [GH_rfv g a1]; exact a3, formK_H a4 g, formK_H a5 g⟩
theorem lawK_H {σ τ : CS} {t : Nat} {L : Lw} (h : lawK σ t L) (g : GH σ τ) : lawK τ t L := by
  obtain ⟨h1, h2, h3, a, b, h4, h5, h6, h7, h8, h9, h10, h11, h12⟩ := h
  refine ⟨GH_okc g h1, by rw [GH_I g h1]; exact h2, by rw [GH_I g h1]; exact h3, a, b, by rw [GH_rfv g h1]; exact h4, GH_okc g h5, by rw [GH_lnC g h5]; exact h6, by rw [GH_rfv g h1]; exact h7, GH_okc g h8, by rw [GH_lnC g h8]; exact h9, fun k hk => by rw [GH_rfv g h5]; exact h10 k hk, fun k I hI => ?_, fun k T hT => ?_⟩
  · obtain ⟨c, c1, c2⟩ := h11 k I hI
    exact ⟨c, by rw [GH_rfv g h5]; exact c1, formK_H c2 g⟩
  · obtain ⟨c, c1, c2⟩ := h12 k T hT
    exact ⟨c, by rw [GH_rfv g h8]; exact c1, formK_H c2 g⟩
theorem shK_H {σ τ : CS} {a : Nat} {l : Ens} (h : shK σ a l) (g : GH σ τ) : shK τ a l := by
  obtain ⟨a1, a2, a3, r, a4, a5, a6, a7⟩ := h
  refine ⟨GH_okc g a1, by rw [GH_I g a1]; exact a2, a3, r, by rw [GH_rfv g a1]; exact a4, GH_okc g a5, by rw [GH_lnC g a5]; exact a6, fun e x hx => ?_⟩
  obtain ⟨c, b1, b2⟩ := a7 e x hx
  exact ⟨c, by rw [GH_rfv g a5]; exact b1, entK_H b2 g⟩
theorem shF_H {σ τ : CS} {a : Nat} (h : shF σ a) (g : GH σ τ) : shF τ a := by
  obtain ⟨a1, r, a4, a5, a6, a7, a8⟩ := h
  exact ⟨GH_okc g a1, r, by rw [GH_rfv g a1]; exact a4, a5, GH_okc g a6, by rw [GH_lnC g a6]; exact a7, fun k hk => by rw [GH_rfv g a6]; exact GH_okr g (a8 k hk)⟩
theorem imK_H {σ τ : CS} {j : Nat} {o : Option Ens} (h : imK σ j o) (g : GH σ τ) : imK τ j o := by
  cases o with
  | none => unfold imK at h ⊢; rw [(GH_lo g (j := 29) (by omega)).1]; exact h
  | some l => exact ⟨by rw [(GH_lo g (j := 29) (by omega)).1]; exact h.1, shK_H h.2 g⟩
theorem KA_H {σ τ : CS} {s : Sta} (h : KA σ s) (g : GH σ τ) : KA τ s := by
  obtain ⟨h1, ⟨t, e, l, ht⟩, h3, ⟨h4, h4'⟩, ⟨nw, n1, n2, n3, n4⟩, h6, f5, f9, f30⟩ := h
  have z : ∀ j, j < 49 → sm σ τ j := fun j hj => GH_lo g hj
  refine ⟨KAt_x h1 (by rw [(z 0 (by omega)).1]) (z 1 (by omega)).1, ⟨t, by rw [rfv_hi (z 0 (by omega)).2]; exact e, lawK_H l g, ht⟩, shK_H h3 g, ⟨by rw [(z 25 (by omega)).1]; exact h4, fun i x hx => ?_⟩, ⟨nw, n1, by rw [(z 7 (by omega)).1]; exact n2, by rw [(z 7 (by omega)).1]; exact n3, fun i l hl => shK_H (n4 i l hl) g⟩, ⟨imK_H h6.1 g, imK_H h6.2 g⟩, shF_H f5 g, fun i hi => shF_H (f9 i hi) g, fun j hj => shF_H (f30 j hj) g⟩
  obtain ⟨g1, d, g2, g3⟩ := h4' i x hx
  exact ⟨by rw [(z 27 (by omega)).1]; exact g1, d, by rw [rfv_hi (z 26 (by omega)).2]; exact g2, entK_H g3 g⟩
theorem GH_fx {σ τ : CS} (h : GH σ τ) : fxK τ = fxK σ := by
  funext k
  unfold fxK
  rw [(GH_lo h (j := 36) (by omega)).1, (GH_lo h (j := 34) (by omega)).1]
/-- a form is kept -/
theorem k_keptForm {σ : CS} {t : Tr} {p T : Nat} (hT : σ.1 34 1 = i32 T) (hT2 : T ≤ 3600) (hp : pr (fxK σ) t) (hf : fm (σ.1 35) t p) (hl : p + ln t ≤ T) (h50 : ln t ≤ 50) : ∃ τ, f_Signs_keptForm (i32 p) σ = some (some (49 + ndC σ), τ) ∧ GH σ τ ∧ ndC τ = ndC σ + 2 ∧ formK τ (49 + ndC σ) t := by
  unfold f_Signs_keptForm g_Signs_keptForm
  rw [k_behind hT hT2 hp hf hl, Option.bind_some]
  dsimp only
  rw [if_pos (show (ndC σ == ndC σ) = true from beq_self_eq_true _), if_neg (show ¬ (i32 p < 0) from nlt0 (by omega)), if_neg (show ¬ (i32 (p + ln t) < i32 p) by rw [z_lt (by omega) (by omega)]; omega), if_pos (show i32 (p + ln t) ≤ 3600 by rw [show (3600 : Int32) = i32 3600 from rfl, z_le (by omega) (by omega)]; omega)]
  have hc : cpok (i32 p) (i32 (p + ln t)) = true := by
    unfold cpok
    rw [z_sub (by omega), show p + ln t - p = ln t by omega]
    simp only [Bool.and_eq_true, decide_eq_true_eq]
    refine ⟨⟨⟨i_nn (by omega), ?_⟩, ?_⟩, ?_⟩
    · rw [z_le (by omega) (by omega)]; omega
    · rw [show (3600 : Int32) = i32 3600 from rfl, z_le (by omega) (by omega)]; omega
    · rw [show (50 : Int32) = i32 50 from rfl, z_le (by omega) (by omega)]; exact h50
  rw [if_pos hc, z_nn (by omega), z_nn (by omega), show p + ln t - p = ln t by omega]
  have g1 : GH σ (nwC σ 1 0) := GH_nw σ 1 0
  have g2 : GH (nwC σ 1 0) (cpC (nwC σ 1 0) p (ln t)) := by
    unfold cpC
    exact GH_sA (GH_nw _ 12 (ln t)) (Nat.le_refl _) _
  have o1 : okc (nwC σ 1 0) (49 + ndC σ) 1 = true := ok_new σ 1 0
  have o2 : okc (cpC (nwC σ 1 0) p (ln t)) (49 + ndC (nwC σ 1 0)) 12 = true := ok_new (nwC σ 1 0) 12 (ln t)
  have n2 : lnC (cpC (nwC σ 1 0) p (ln t)) (49 + ndC (nwC σ 1 0)) = ln t := nw_ln (nwC σ 1 0) 12 (ln t)
  have d1 : ndC (nwC σ 1 0) = ndC σ + 1 := rfl
  have d2 : ndC (cpC (nwC σ 1 0) p (ln t)) = ndC σ + 2 := rfl
  have i2 : ∀ k, k < ln t → (cpC (nwC σ 1 0) p (ln t)).1 (49 + ndC (nwC σ 1 0)) k = i32 ((enc t).getD k 0) := fun k hk => by
    unfold cpC
    show (if 49 + ndC (nwC σ 1 0) = 49 + ndC (nwC σ 1 0) then va_cpy ((nwC (nwC σ 1 0) 12 (ln t)).1 35) _ p 0 (ln t) else _) k = _
    rw [if_pos rfl]
    unfold va_cpy
    rw [if_pos ⟨Nat.zero_le _, by omega⟩, Nat.sub_zero, (GH_lo (GH_tr g1 (GH_nw _ 12 (ln t))) (j := 35) (by omega)).1]
    exact (fm_iff t p).mp hf k hk
  generalize cpC (nwC σ 1 0) p (ln t) = τ at g2 o2 n2 d2 i2
  have o3 := GH_okc g2 o1
  unfold f_Form_init
  rw [if_pos (show decide (49 ≤ 49 + ndC σ) = true from decide_eq_true (by omega)), if_pos o3, Option.bind_some]
  dsimp only
  rw [if_pos (show (ndC (sR τ (49 + ndC σ) 0 (some (49 + ndC (nwC σ 1 0)))) == ndC τ + 0) = true from beq_self_eq_true _)]
  refine ⟨_, rfl, GH_sR (GH_tr g1 g2) (Nat.le_refl _) _ _, d2, ?_⟩
  refine ⟨o3, 49 + ndC (nwC σ 1 0), ?_, by omega, o2, n2, i2⟩
  unfold rfv
  rw [srf_ge (by omega), if_pos rfl, sR_at]
/-- the entry that was read -/
theorem k_entryRead {σ : CS} {T g h : Nat} {x : Tr × Tr} (hT : σ.1 34 1 = i32 T) (hT2 : T ≤ 3600) (hg : σ.1 43 12 = i32 g) (hh : σ.1 43 13 = i32 h) (p1 : pr (fxK σ) x.1) (p2 : pr (fxK σ) x.2) (f1 : fm (σ.1 35) x.1 g) (f2 : fm (σ.1 35) x.2 h) (l1 : g + ln x.1 ≤ T) (l2 : h + ln x.2 ≤ T) (m1 : ln x.1 ≤ 50) (m2 : ln x.2 ≤ 50) : ∃ τ, f_Reader_entryRead σ = some (some (49 + ndC σ), τ) ∧ GH σ τ ∧ ndC τ = ndC σ + 5 ∧ entK τ (49 + ndC σ) x := by
  have g0 : GH σ (nwC σ 0 0) := GH_nw σ 0 0
  have o0 : okc (nwC σ 0 0) (49 + ndC σ) 0 = true := ok_new σ 0 0
  have d0 : ndC (nwC σ 0 0) = ndC σ + 1 := rfl
  unfold f_Reader_entryRead
  generalize nwC σ 0 0 = σ1 at g0 o0 d0
  rw [(GH_lo g0 (j := 43) (by omega)).1, hg]
  obtain ⟨τ, t1, t2, t3, t4⟩ := k_keptForm (σ := σ1) (t := x.1) (p := g) (T := T) (by rw [(GH_lo g0 (j := 34) (by omega)).1]; exact hT) hT2 (by rw [GH_fx g0]; exact p1) (by rw [(GH_lo g0 (j := 35) (by omega)).1]; exact f1) l1 m1
  rw [t1, Option.bind_some]
  dsimp only
  have g1 := GH_tr g0 t2
  rw [if_pos (show (ndC τ == ndC σ1 + 2) = true from beq_iff_eq.mpr t3), (GH_lo g1 (j := 43) (by omega)).1, hh]
  obtain ⟨υ, u1, u2, u3, u4⟩ := k_keptForm (σ := τ) (t := x.2) (p := h) (T := T) (by rw [(GH_lo g1 (j := 34) (by omega)).1]; exact hT) hT2 (by rw [GH_fx g1]; exact p2) (by rw [(GH_lo g1 (j := 35) (by omega)).1]; exact f2) l2 m2
  rw [u1, Option.bind_some]
  dsimp only
  have g2 := GH_tr g1 u2
  have o2 := GH_okc (GH_tr t2 u2) o0
  rw [if_pos (show (ndC υ == ndC τ + 2) = true from beq_iff_eq.mpr u3)]
  unfold f_Entry_init
  rw [if_pos (show decide (49 ≤ 49 + ndC σ) = true from decide_eq_true (by omega)), if_pos o2, if_pos (show decide (49 ≤ 49 + ndC σ) = true from decide_eq_true (by omega)), if_pos (show okc (sR υ (49 + ndC σ) 0 (some (49 + ndC σ1))) (49 + ndC σ) 0 = true from o2), Option.bind_some]
  dsimp only
  rw [if_pos (show (ndC (sR (sR υ (49 + ndC σ) 0 (some (49 + ndC σ1))) (49 + ndC σ) 1 (some (49 + ndC τ))) == ndC υ + 0) = true from beq_self_eq_true _)]
  have gE : GH σ (sR (sR υ (49 + ndC σ) 0 (some (49 + ndC σ1))) (49 + ndC σ) 1 (some (49 + ndC τ))) := GH_sR (GH_sR g2 (Nat.le_refl _) _ _) (Nat.le_refl _) _ _
  have fr : ∀ {f : Nat} {t : Tr}, formK υ f t → formK (sR (sR υ (49 + ndC σ) 0 (some (49 + ndC σ1))) (49 + ndC σ) 1 (some (49 + ndC τ))) f t := by
    intro f t hf
    obtain ⟨a1, r, a2, a3, a4, a5, a6⟩ := hf
    refine ⟨a1, r, ?_, a3, a4, a5, a6⟩
    have hne : f ≠ 49 + ndC σ := by
      rintro rfl
      have b1 := okc_k a1
      have b2 := okc_k o2
      omega
    rw [rfv_hi (σ := υ) (by rw [sR_row _ _ _ hne, sR_row _ _ _ hne])]
    exact a2
  refine ⟨_, rfl, gE, by show ndC υ = _; omega, o2, 49 + ndC σ1, 49 + ndC τ, ?_, ?_, fr (formK_H t4 u2), fr u4⟩
  · unfold rfv
    rw [srf_ge (by omega), if_pos rfl, sR_ne _ _ (Or.inr (by decide)), sR_at]
  · unfold rfv
    rw [srf_ge (by omega), if_pos rfl, sR_at]
end KTOP21

section KTOP2
theorem ent_lt {L : Lw} {e : Tr × Tr} (hL : lwOK L) (h : entOK L e) : (∀ x ∈ enc e.1, x < 128) ∧ ∀ x ∈ enc e.2, x < 128 := ⟨pr_lt _ (WT_pr (f := fxL L) ⟨hL.1, hL.2.1⟩ (fun _ _ => rfl) _ _ h.1), pr_lt _ (HT_pr hL.2.1 (fxL L) _ _ _ _ h.2.2.1)⟩
theorem k_shAt1 {σ : CS} {a : Nat} {l : Ens} {x : Int32} (h : shK σ a l) (hx : inR x l.length) : ∃ c e, l[x.toNatClampNeg]? = some e ∧ f_Shelf_at a x σ = some (some c, σ) ∧ entK σ c e := by
  obtain ⟨a1, a2, a3, r, a4, a5, a6, a7⟩ := h
  have ex := inR_e hx
  have hxl := hx.2
  generalize x.toNatClampNeg = w at ex hxl
  subst ex
  obtain ⟨c, b1, b2⟩ := a7 w _ (List.getElem?_eq_getElem hxl)
  refine ⟨c, l[w], List.getElem?_eq_getElem hxl, ?_, b2⟩
  unfold f_Shelf_at B_Shelf_at_27 B_Shelf_at_28
  rw [if_neg (nlt0 (by omega)), if_pos a1, a2, if_neg (show ¬ (i32 l.length ≤ i32 w) by rw [z_le (by omega) (by omega)]; omega), if_neg (show ¬ ((6 : Int32) ≤ i32 w) by rw [z6, z_le (by omega) (by omega)]; omega), if_pos a1, a4, Option.bind_some, if_pos a5, a6, if_pos (c_ix (show w < 6 by omega) (by omega)), z_nn (by omega), b1]
theorem k_shAt0 {σ : CS} {a : Nat} {l : Ens} {x : Int32} (h : shK σ a l) (hx : ¬ inR x l.length) : f_Shelf_at a x σ = some (none, σ) := by
  obtain ⟨a1, a2, a3, _⟩ := h
  unfold f_Shelf_at B_Shelf_at_27 B_Shelf_at_28
  by_cases h0 : x < 0
  · rw [if_pos h0]
  · rw [if_neg h0, if_pos a1, a2]
    have h1 : 0 ≤ x := Int32.not_lt.mp h0
    have e := i_cl h1
    have hcl := i_clt (x := x)
    have h2 : ¬ (x.toNatClampNeg < l.length) := fun g => hx ⟨h1, g⟩
    rw [if_pos (show i32 l.length ≤ x by rw [e, z_le (by omega) hcl]; omega)]
theorem k_formEq_l {σ : CS} {f g : Nat} {t u : Tr} (hf : formK σ f t) (hg : formK σ g u) (hl : ln t ≤ 50) (hn : ln u = ln t) (h1 : ∀ x ∈ enc t, x < 128) (h2 : ∀ x ∈ enc u, x < 128) : ∀ (d F k : Nat), k + d = ln t → d < F → L_Form_equalTo_17 f F (some g) (i32 k) σ = some (if (enc t).drop k = (enc u).drop k then 1 else 0, σ) := by
  obtain ⟨a1, r, a2, a3, a4, a5, a6⟩ := id hf
  intro d
  induction d with
  | zero =>
    intro F k hk hF
    obtain ⟨F, rfl⟩ : ∃ F', F = F' + 1 := ⟨F - 1, by omega⟩
    obtain rfl : k = ln t := by omega
    rw [L_Form_equalTo_17, if_pos a1, a2, Option.bind_some, if_pos a4, a5, if_pos (show Int32.ofNat (ln t) ≤ i32 (ln t) from Int32.le_refl _)]
    have e1 : (enc t).drop (ln t) = [] := List.drop_eq_nil_of_le (Nat.le_refl _)
    have e2 : (enc u).drop (ln t) = [] := List.drop_eq_nil_of_le (by unfold ln at hn ⊢; omega)
    rw [e1, e2, if_pos rfl]
  | succ d ih =>
    intro F k hk hF
    obtain ⟨F, rfl⟩ : ∃ F', F = F' + 1 := ⟨F - 1, by omega⟩
    have hkt : k < (enc t).length := by unfold ln at hk; omega
    have hku : k < (enc u).length := by unfold ln at hk hn; omega
    have hs := k_formAt (k := i32 k) hg (i_nn (by omega)) (by omega)
    have hsg : sgA u (i32 k) = i32 ((enc u).getD k 0) := by
      unfold sgA
      rw [if_neg (show ¬ (i32 (ln u) ≤ i32 k) by rw [z_le (by omega) (by omega)]; omega), z_nn (by omega)]
    rw [hsg] at hs
    rw [L_Form_equalTo_17, if_pos a1, a2, Option.bind_some, if_pos a4, a5, if_neg (show ¬ (Int32.ofNat (ln t) ≤ i32 k) by rw [ofL, z_le (by omega) (by omega)]; omega), if_pos a1, Option.bind_some, if_pos a4, a5, if_pos (c_ix (show k < ln t from hkt) (by omega)), Option.bind_some, if_pos hg.1, hs, Option.bind_some]
    dsimp only
    rw [z_nn (by omega), a6 k hkt, drop_gD hkt, drop_gD hku]
    have b1 := gD_lt h1 k
    have b2 := gD_lt h2 k
    by_cases he : (enc t).getD k 0 = (enc u).getD k 0
    · rw [if_pos (show i32 ((enc t).getD k 0) = i32 ((enc u).getD k 0) by rw [he]), z1, z_add, ih F (k + 1) (by omega) (by omega), he]
      by_cases h3 : (enc t).drop (k + 1) = (enc u).drop (k + 1)
      · rw [if_pos h3, if_pos (by rw [h3])]; rfl
      · rw [if_neg h3, if_neg (fun e => h3 (by injection e))]
    · rw [if_neg (c_eq he (by omega) (by omega)), if_neg (fun e => he (by injection e))]
theorem k_formEq {σ : CS} {f g : Nat} {t u : Tr} (hf : formK σ f t) (hg : formK σ g u) (hl : ln t ≤ 50) (hu : ln u ≤ 50) (h1 : ∀ x ∈ enc t, x < 128) (h2 : ∀ x ∈ enc u, x < 128) : f_Form_equalTo f (some g) σ = some (if enc t = enc u then 1 else 0, σ) := by
  obtain ⟨a1, r, a2, a3, a4, a5, a6⟩ := id hf
  obtain ⟨b1, q, b2, b3, b4, b5, b6⟩ := id hg
  unfold f_Form_equalTo
  rw [if_pos a1, a2, Option.bind_some, if_pos a4, Option.bind_some, if_pos b1, b2, Option.bind_some, if_pos b4, a5, b5]
  by_cases hn : ln u = ln t
  · rw [if_pos (show Int32.ofNat (ln t) = Int32.ofNat (ln u) by rw [hn])]
    have := k_formEq_l hf hg hl hn h1 h2 (ln t) 10000 0 (by omega) (Nat.lt_of_lt_of_le (show ln t < 100 by omega) (Nat.le_of_ble_eq_true rfl))
    rw [List.drop_zero, List.drop_zero] at this
    exact this
  · rw [if_neg (show ¬ (Int32.ofNat (ln t) = Int32.ofNat (ln u)) from c_eq (fun e => hn e.symm) (by omega) (by omega)), if_neg (fun e => hn (by unfold ln; rw [e]))]
theorem k_likeness {σ : CS} {L : Lw} {c d : Nat} {x y : Tr × Tr} (hL : lwOK L) (ox : entOK L x) (oy : entOK L y) (hx : entK σ c x) (hy : entK σ d y) : f_Entry_likeness c (some d) σ = some (i32 (lkA x y), σ) := by
  obtain ⟨a1, f, g, a2, a3, a4, a5⟩ := hx
  obtain ⟨b1, p, q, b2, b3, b4, b5⟩ := hy
  obtain ⟨n1, n2⟩ := ent_ln ox
  obtain ⟨n3, n4⟩ := ent_ln oy
  obtain ⟨m1, m2⟩ := ent_lt hL ox
  obtain ⟨m3, m4⟩ := ent_lt hL oy
  unfold f_Entry_likeness B_Entry_likeness_35 lkA
  rw [if_pos a1, Option.bind_some, if_pos b1, a2, Option.bind_some, if_pos a4.1, b2, k_formEq a4 b4 n1 n3 m1 m3, Option.bind_some]
  dsimp only
  by_cases h1 : enc x.1 = enc y.1
  · rw [if_pos h1, if_pos h1, if_neg (show ¬ ((1 : Int32) = 0) from by decide), if_pos a1, if_pos b1, a3, Option.bind_some, if_pos a5.1, b3, k_formEq a5 b5 n2 n4 m2 m4, Option.bind_some]
    dsimp only
    by_cases h2 : enc x.2 = enc y.2
    · rw [if_pos h2, if_pos h2, if_neg (show ¬ ((1 : Int32) = 0) from by decide)]; rfl
    · rw [if_neg h2, if_neg h2, if_pos rfl]; rfl
  · rw [if_neg h1, if_neg h1, if_pos rfl]; rfl
theorem k_like {σ : CS} {s : Sta} (hs : SOK s) (h : KA σ s) (x y : Int32) : KO σ (f_J_like x y σ) (aLike x y s) := by
  refine ⟨σ, ⟨rfl, rfl⟩, ?_, h⟩
  have h3 := h.2.2.1
  have hE := hs.2.2.2.1
  unfold f_J_like aLike B_J_like_28
  by_cases hx : inR x s.en.length
  · obtain ⟨c, e, c1, c2, c3⟩ := k_shAt1 h3 hx
    rw [if_pos hx, c2, Option.bind_some]
    dsimp only
    by_cases hy : inR y s.en.length
    · obtain ⟨d, f, d1, d2, d3⟩ := k_shAt1 h3 hy
      rw [if_pos hy, d2, Option.bind_some, c1, d1]
      dsimp only [Option.elim]
      rw [if_pos c3.1, k_likeness hs.2.2.1 (hE.2 _ (List.mem_of_getElem? c1)) (hE.2 _ (List.mem_of_getElem? d1)) c3 d3, Option.bind_some]
    · rw [if_neg hy, k_shAt0 h3 hy, Option.bind_some]
      rfl
  · rw [if_neg hx, k_shAt0 h3 hx, Option.bind_some]
    dsimp only [Option.elim]
    by_cases hy : inR y s.en.length
    · obtain ⟨d, f, d1, d2, d3⟩ := k_shAt1 h3 hy
      rw [d2, Option.bind_some]
    · rw [k_shAt0 h3 hy, Option.bind_some]
end KTOP2

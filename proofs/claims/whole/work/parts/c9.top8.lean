section TOP8
theorem m_likeOf {σ : MS} {x y : Tr × Tr} {p q : Nat} (hx : pr (fxM σ) x.1 ∧ pr (fxM σ) x.2) (hy : pr (fxM σ) y.1 ∧ pr (fxM σ) y.2) (fx : fm (σ.2.1 1) x.1 p ∧ fm (σ.2.1 1) x.2 (p + 51)) (fy : fm (σ.2.1 1) y.1 q ∧ fm (σ.2.1 1) y.2 (q + 51)) (lx : ln x.1 ≤ 50 ∧ ln x.2 ≤ 50) (ly : ln y.1 ≤ 50 ∧ ln y.2 ≤ 50) (hp : p ≤ 9000) (hq : q ≤ 9000) : f_likeOf (i32 p) (i32 q) σ = some (i32 (lkA x y), σ) := by
  unfold f_likeOf B_likeOf_33 lkA
  rw [m_isSame hx.1 hy.1 fx.1 fy.1 (by omega) (by omega), Option.bind_some]
  dsimp only
  by_cases h1 : enc x.1 = enc y.1
  · rw [if_pos h1, if_pos h1, if_neg (show ¬ (i32 1 = 0) from by decide), z51, z_add, z_add, m_isSame hx.2 hy.2 fx.2 fy.2 (by omega) (by omega), Option.bind_some]
    dsimp only
    by_cases h2 : enc x.2 = enc y.2
    · rw [if_pos h2, if_pos h2, if_neg (show ¬ (i32 1 = 0) from by decide)]; rfl
    · rw [if_neg h2, if_neg h2, if_pos (show i32 0 = 0 from rfl)]; rfl
  · rw [if_neg h1, if_neg h1, if_pos (show i32 0 = 0 from rfl)]; rfl
def aLike (x y : Int32) (s : Sta) : Int32 × Sta := (if inR x s.en.length then (if inR y s.en.length then (match s.en[x.toNatClampNeg]?, s.en[y.toNatClampNeg]? with | some a, some b => i32 (lkA a b) | _, _ => -1) else -1) else -1, s)
theorem m_like {σ : MS} {s : Sta} (hs : SOK s) (h : MA σ s) (x y : Int32) : MO (f_like x y σ) (aLike x y s) := by
  refine ⟨σ, ?_, h⟩
  obtain ⟨_, _, ⟨h8, he⟩, _⟩ := id h
  have hE := hs.2.2.2.1
  have hn := hE.1
  unfold f_like aLike B_like_39 B_like_40
  rw [m_isEntry h8 (by omega), Option.bind_some]
  dsimp only
  by_cases hx : inR x s.en.length
  · rw [if_pos hx, if_pos hx, if_neg (show ¬ ((1 : Int32) = 0) from by decide), m_isEntry h8 (by omega), Option.bind_some]
    dsimp only
    by_cases hy : inR y s.en.length
    · rw [if_pos hy, if_pos hy, if_neg (show ¬ ((1 : Int32) = 0) from by decide)]
      have ex := inR_e hx
      have hxl := hx.2
      generalize x.toNatClampNeg = w at ex hxl
      subst ex
      have ey := inR_e hy
      have hyl := hy.2
      generalize y.toNatClampNeg = r at ey hyl
      subst ey
      have hg : s.en[w]? = some s.en[w] := List.getElem?_eq_getElem hxl
      have hg2 : s.en[r]? = some s.en[r] := List.getElem?_eq_getElem hyl
      have ho := hE.2 _ (List.getElem_mem hxl)
      have ho2 := hE.2 _ (List.getElem_mem hyl)
      rw [hg, hg2, show (357 : Int32) + 102 * i32 w = i32 (357 + 102 * w) by simp only [z357, z102, z_mul, z_add], show (357 : Int32) + 102 * i32 r = i32 (357 + 102 * r) by simp only [z357, z102, z_mul, z_add], m_likeOf (MA_pr hs h ho) (MA_pr hs h ho2) (he w _ hg) (he r _ hg2) (ent_ln ho) (ent_ln ho2) (by omega) (by omega), Option.bind_some]
    · rw [if_neg hy, if_neg hy, if_pos rfl]
  · rw [if_neg hx, if_neg hx, if_pos rfl]
def aForget (s : Sta) : Int32 × Sta := (i32 s.sg.length, (s.tx, s.L, s.en, [], s.un, s.im))
theorem m_forget {σ : MS} {s : Sta} (hs : SOK s) (h : MA σ s) : MO (f_forget σ) (aForget s) := by
  obtain ⟨h1, h2, h3, h4, h5, h6, h7⟩ := h
  refine ⟨setF σ 10 0, by unfold f_forget aForget; rw [h5.1], ?_⟩
  have o : ∀ k, k ≠ 10 → (setF σ 10 0).1 k = σ.1 k := fun k hk => setF_ne _ _ hk
  exact ⟨MAt_x h1 (o 3 (by decide)) rfl, MAl_x hs.2.2.1 h2 (o 4 (by decide)) (o 5 (by decide)) (o 7 (by decide)) rfl (fun _ _ => rfl), MAe_x hs.2.2.2.1 h3 (o 8 (by decide)) (fun _ _ _ => rfl), h4, ⟨setF_eq _ _ _, fun i x hx => by have hx2 : ([] : List (Nat × (Tr × Tr)))[i]? = some x := hx; simp at hx2⟩, MAu_x h6 (o 15 (by decide)) rfl rfl rfl, MAi_x h7 rfl rfl⟩
def aCount (x : Int32) (s : Sta) : Int32 × Sta := (if x = 0 then i32 s.L.1.length else if x = 1 then i32 s.L.2.length else if x = 2 then i32 s.en.length else if x = 3 then i32 s.sg.length else if x = 4 then i32 s.tx.length else if x = 5 then i32 s.un.length else -1, s)
theorem m_count {σ : MS} {s : Sta} (h : MA σ s) (x : Int32) : MO (f_count x σ) (aCount x s) := by
  refine ⟨σ, ?_, h⟩
  obtain ⟨h1, h2, h3, h4, h5, h6, h7⟩ := h
  unfold f_count aCount
  rw [h1.1, h2.1, h2.2.1, h3.1, h5.1, h6.1]
  by_cases e0 : x = 0
  · rw [if_pos e0, if_pos e0]
  rw [if_neg e0, if_neg e0]
  by_cases e1 : x = 1
  · rw [if_pos e1, if_pos e1]
  rw [if_neg e1, if_neg e1]
  by_cases e2 : x = 2
  · rw [if_pos e2, if_pos e2]
  rw [if_neg e2, if_neg e2]
  by_cases e3 : x = 3
  · rw [if_pos e3, if_pos e3]
  rw [if_neg e3, if_neg e3]
  by_cases e4 : x = 4
  · rw [if_pos e4, if_pos e4]
  rw [if_neg e4, if_neg e4]
  by_cases e5 : x = 5
  · rw [if_pos e5, if_pos e5]
  rw [if_neg e5, if_neg e5]
theorem brg_ne (σ : MS) (a i b j n : Nat) {c : Nat} (h : c ≠ b) : (brg σ a i b j n).2.1 c = σ.2.1 c := by
  unfold brg
  dsimp only
  rw [if_neg h]
theorem brg_in (σ : MS) (a i b j n k : Nat) (h : k < n) : (brg σ a i b j n).2.1 b (j + k) = σ.2.1 a (i + k) := by
  unfold brg
  dsimp only
  rw [if_pos rfl, if_pos (by omega), Nat.add_sub_cancel_left]
theorem brg_out (σ : MS) (a i b j n : Nat) {q : Nat} (h : q < j ∨ j + n ≤ q) : (brg σ a i b j n).2.1 b q = σ.2.1 b q := by
  unfold brg
  dsimp only
  rw [if_pos rfl, if_neg (by omega)]
theorem brg_1 (σ : MS) (a i b j n : Nat) : (brg σ a i b j n).1 = σ.1 := rfl
theorem brg_2 (σ : MS) (a i b j n : Nat) : (brg σ a i b j n).2.2 = σ.2.2 := rfl
def setIm (im : Option Ens × Option Ens) (w : Nat) (l : Ens) : Option Ens × Option Ens := if w = 0 then (some l, im.2) else (im.1, some l)
def getIm (im : Option Ens × Option Ens) (w : Nat) : Option Ens := if w = 0 then im.1 else im.2
def aKeep (x : Int32) (s : Sta) : Int32 × Sta := if inR x 2 then (i32 s.en.length, (s.tx, s.L, s.en, s.sg, s.un, setIm s.im x.toNatClampNeg s.en)) else (-1, s)
def aBack (x : Int32) (s : Sta) : Int32 × Sta := if inR x 2 then (match getIm s.im x.toNatClampNeg with | none => (-2, s) | some l => (i32 l.length, (s.tx, s.L, l, s.sg, [], s.im))) else (-1, s)
theorem m_keep {σ : MS} {s : Sta} (hs : SOK s) (h : MA σ s) (x : Int32) : MO (f_keep x σ) (aKeep x s) := by
  unfold f_keep aKeep
  have e : f_in x 0 1 σ = some (if inR x 2 then 1 else 0, σ) := m_inL (n := 1) (by omega) σ
  rw [e, Option.bind_some]
  dsimp only
  by_cases hx : inR x 2
  · rw [if_pos hx, if_pos hx, if_neg (show ¬ ((1 : Int32) = 0) from by decide)]
    have ex := inR_e hx
    have hxl := hx.2
    generalize x.toNatClampNeg = w at ex hxl
    subst ex
    obtain ⟨h1, h2, h3, h4, h5, h6, h7⟩ := h
    have hE := hs.2.2.2.1
    have hn := hE.1
    have hb : f_bring 1 357 8 (612 * i32 w) 612 (setA σ 9 w (σ.1 8)) = some (0, brg (setA σ 9 w (σ.1 8)) 1 357 8 (612 * w) 612) := by
      rw [z357, z612, z_mul]
      exact m_bring _ (show 357 + 612 ≤ aln 1 from Nat.le_of_ble_eq_true rfl) (show 612 * w + 612 ≤ aln 8 from Nat.le_trans (show 612 * w + 612 ≤ 1224 by omega) (Nat.le_refl _)) (Or.inl (by decide))
    rw [if_pos (c_ix (show w < aln 9 from Nat.lt_of_lt_of_le hxl (Nat.le_refl _)) (by omega)), hb, Option.bind_some]
    dsimp only
    have o9 : ∀ j, (brg (setA σ 9 w (σ.1 8)) 1 357 8 (612 * w) 612).2.1 9 j = if j = w then i32 s.en.length else σ.2.1 9 j := by
      intro j
      rw [brg_ne _ _ _ _ _ _ (show 9 ≠ 8 by decide)]
      by_cases hj : j = w
      · rw [if_pos hj, hj, setA_at, h3.1]
      · rw [if_neg hj, setA_ne _ _ (Or.inr hj)]
    have o8 : ∀ k, k < 612 → (brg (setA σ 9 w (σ.1 8)) 1 357 8 (612 * w) 612).2.1 8 (612 * w + k) = σ.2.1 1 (357 + k) := by
      intro k hk
      rw [brg_in _ _ _ _ _ _ _ hk, setA_ne _ _ (Or.inl (by decide))]
    have o8' : ∀ q, q < 612 * w ∨ 612 * w + 612 ≤ q → (brg (setA σ 9 w (σ.1 8)) 1 357 8 (612 * w) 612).2.1 8 q = σ.2.1 8 q := by
      intro q hq
      rw [brg_out _ _ _ _ _ _ hq, setA_ne _ _ (Or.inl (by decide))]
    have oo : ∀ c, c ≠ 8 → c ≠ 9 → (brg (setA σ 9 w (σ.1 8)) 1 357 8 (612 * w) 612).2.1 c = σ.2.1 c := by
      intro c h1 h2
      rw [brg_ne _ _ _ _ _ _ h1]
      funext i
      rw [setA_ne _ _ (Or.inl h2)]
    have of : (brg (setA σ 9 w (σ.1 8)) 1 357 8 (612 * w) 612).1 = σ.1 := rfl
    have ol : (brg (setA σ 9 w (σ.1 8)) 1 357 8 (612 * w) 612).2.2 = σ.2.2 := rfl
    generalize brg (setA σ 9 w (σ.1 8)) 1 357 8 (612 * w) 612 = τ at o9 o8 o8' oo of ol
    refine ⟨τ, by rw [of, h3.1], MAt_x h1 (by rw [of]) (oo 2 (by decide) (by decide)), MAl_x hs.2.2.1 h2 (by rw [of]) (by rw [of]) (by rw [of]) (oo 3 (by decide) (by decide)) (fun _ _ => by rw [oo 1 (by decide) (by decide)]), MAe_x hE h3 (by rw [of]) (fun _ _ _ => by rw [oo 1 (by decide) (by decide)]), MAn_x h4 (fun _ _ => by rw [ol]) (fun _ _ => by rw [oo 11 (by decide) (by decide)]), MAs_x hs.2.2.2.2.1 h5 (by rw [of]) (oo 4 (by decide) (by decide)) (fun _ _ _ => by rw [oo 1 (by decide) (by decide)]), MAu_x h6 (by rw [of]) (oo 5 (by decide) (by decide)) (oo 6 (by decide) (by decide)) (oo 7 (by decide) (by decide)), ?_⟩
    have hnew : im1 τ w (some s.en) := ⟨by rw [o9, if_pos rfl], enAt_sh hE (n := 612) (by omega) o8 h3.2⟩
    have hold : ∀ (j : Nat) (y : Option Ens), j ≠ w → (∀ l, y = some l → ensOK s.L l) → im1 σ j y → im1 τ j y := by
      intro j y hj hy hi
      cases y with
      | none => unfold im1 at hi ⊢; rw [o9, if_neg hj]; exact hi
      | some l =>
        refine ⟨by rw [o9, if_neg hj]; exact hi.1, enAt_sh (hy l rfl) (n := 612) (by have := (hy l rfl).1; omega) (fun k hk => o8' _ (by omega)) hi.2⟩
    obtain rfl | rfl : w = 0 ∨ w = 1 := by omega
    · exact ⟨hnew, hold 1 _ (by decide) hs.2.2.2.2.2.2.2 h7.2⟩
    · exact ⟨hold 0 _ (by decide) hs.2.2.2.2.2.2.1 h7.1, hnew⟩
  · rw [if_neg hx, if_neg hx, if_pos rfl]
    exact ⟨σ, rfl, h⟩
theorem MA_im {σ : MS} {s : Sta} (h : MA σ s) {w : Nat} (hw : w < 2) : im1 σ w (getIm s.im w) := by
  obtain rfl | rfl : w = 0 ∨ w = 1 := by omega
  · exact h.2.2.2.2.2.2.1
  · exact h.2.2.2.2.2.2.2
theorem SOK_im {s : Sta} (hs : SOK s) {w : Nat} {l : Ens} (h : getIm s.im w = some l) : ensOK s.L l := by
  unfold getIm at h
  by_cases hw : w = 0
  · rw [if_pos hw] at h; exact hs.2.2.2.2.2.2.1 l h
  · rw [if_neg hw] at h; exact hs.2.2.2.2.2.2.2 l h
theorem m_back {σ : MS} {s : Sta} (hs : SOK s) (h : MA σ s) (x : Int32) : MO (f_back x σ) (aBack x s) := by
  unfold f_back aBack
  have e : f_in x 0 1 σ = some (if inR x 2 then 1 else 0, σ) := m_inL (n := 1) (by omega) σ
  rw [e, Option.bind_some]
  dsimp only
  by_cases hx : inR x 2
  · rw [if_pos hx, if_pos hx, if_neg (show ¬ ((1 : Int32) = 0) from by decide)]
    have ex := inR_e hx
    have hxl := hx.2
    generalize x.toNatClampNeg = w at ex hxl
    subst ex
    have hi := MA_im h hxl
    rw [if_pos (c_ix (show w < aln 9 from Nat.lt_of_lt_of_le hxl (Nat.le_refl _)) (by omega))]
    cases hg : getIm s.im w with
    | none =>
      rw [hg] at hi
      unfold im1 at hi
      rw [hi, if_neg neg9_lt]
      exact ⟨σ, rfl, h⟩
    | some l =>
      rw [hg] at hi
      obtain ⟨h9, hl⟩ := hi
      have hO := SOK_im hs hg
      have hn := hO.1
      obtain ⟨h1, h2, h3, h4, h5, h6, h7⟩ := h
      have hb : f_bring 8 (612 * i32 w) 1 357 612 (setF σ 8 (i32 l.length)) = some (0, brg (setF σ 8 (i32 l.length)) 8 (612 * w) 1 357 612) := by
        rw [z357, z612, z_mul]
        exact m_bring _ (show 612 * w + 612 ≤ aln 8 from Nat.le_trans (show 612 * w + 612 ≤ 1224 by omega) (Nat.le_refl _)) (show 357 + 612 ≤ aln 1 from Nat.le_of_ble_eq_true rfl) (Or.inl (by decide))
      rw [h9, if_pos (i_nn (by omega)), hb, Option.bind_some]
      dsimp only
      have o1 : ∀ k, k < 612 → (brg (setF σ 8 (i32 l.length)) 8 (612 * w) 1 357 612).2.1 1 (357 + k) = σ.2.1 8 (612 * w + k) := fun k hk => brg_in _ _ _ _ _ _ _ hk
      have o1' : ∀ q, q < 357 ∨ 969 ≤ q → (brg (setF σ 8 (i32 l.length)) 8 (612 * w) 1 357 612).2.1 1 q = σ.2.1 1 q := fun q hq => brg_out _ _ _ _ _ _ hq
      have oo : ∀ c, c ≠ 1 → (brg (setF σ 8 (i32 l.length)) 8 (612 * w) 1 357 612).2.1 c = σ.2.1 c := fun c hc => brg_ne _ _ _ _ _ _ hc
      have of : (brg (setF σ 8 (i32 l.length)) 8 (612 * w) 1 357 612).1 = (setF σ 8 (i32 l.length)).1 := rfl
      have ol : (brg (setF σ 8 (i32 l.length)) 8 (612 * w) 1 357 612).2.2 = σ.2.2 := rfl
      generalize brg (setF σ 8 (i32 l.length)) 8 (612 * w) 1 357 612 = τ at o1 o1' oo of ol
      have ofk : ∀ k, k ≠ 8 → k ≠ 15 → (setF τ 15 0).1 k = σ.1 k := fun k a b => by rw [setF_ne _ _ b, of, setF_ne _ _ a]
      have of8 : (setF τ 15 0).1 8 = i32 l.length := by rw [setF_ne _ _ (by decide), of, setF_eq]
      have oo2 : ∀ c, c ≠ 1 → (setF τ 15 0).2.1 c = σ.2.1 c := oo
      exact ⟨setF τ 15 0, by rw [of8, if_pos (c_ix (show w < aln 9 from Nat.lt_of_lt_of_le hxl (Nat.le_refl _)) (by omega))], MAt_x h1 (ofk 3 (by decide) (by decide)) (oo2 2 (by decide)), MAl_x hs.2.2.1 h2 (ofk 4 (by decide) (by decide)) (ofk 5 (by decide) (by decide)) (ofk 7 (by decide) (by decide)) (oo2 3 (by decide)) (fun i hi => o1' i (Or.inl hi)), ⟨of8, enAt_sh hO (n := 612) (show 102 * l.length ≤ 612 by omega) o1 hl⟩, MAn_x h4 (fun _ _ => by show τ.2.2 _ = _; rw [ol]) (fun _ _ => by rw [oo2 11 (by decide)]), MAs_x hs.2.2.2.2.1 h5 (ofk 10 (by decide) (by decide)) (oo2 4 (by decide)) (fun i _ _ => o1' i (Or.inr (by omega))), ⟨setF_eq _ _ _, trivial⟩, MAi_x h7 (oo2 8 (by decide)) (oo2 9 (by decide))⟩
  · rw [if_neg hx, if_neg hx, if_pos rfl]
    exact ⟨σ, rfl, h⟩
end TOP8

section MREAD16
def h11 (υ : MS) (P : Nat) : MS := setF (setA (setA (agn υ P) 30 P (υ.1 54)) 23 P 12) 52 0
theorem h11_o (υ : MS) (P : Nat) {k : Nat} (h : k ≠ 52) : (h11 υ P).1 k = (agn υ P).1 k := by
  unfold h11
  rw [setF_ne _ _ h]
  rfl
theorem m_hM11 {υ : MS} {P q m e z : Nat} {s n nd : Int32} (hP : P < 40) (h44 : υ.1 44 = i32 (P + 1)) (hp : prt υ P (i32 11) s n nd (i32 q) (i32 m) (i32 e)) (hm : m < 10) (hb : f_behind (i32 (q + 1)) (h11 υ P) = some (i32 z, h11 υ P)) : f_handsTerm υ = (f_valueOf (υ.1 54) (h11 υ P)).bind fun q1 => (f_with (i32 e) (i32 m) q1.1 q1.2).bind fun q2 => some (0, due q2.2 3 (i32 z) (i32 (m + 1)) q2.1) := by
  have c23 : ix (i32 P) (aln 23) = true := c_ix (show P < 40 from hP) (by omega)
  have c30 : ix (i32 P) (aln 30) = true := c23
  obtain ⟨p46, p47, p48, p49, p50⟩ := agn_p hp
  have h := hp.1
  have a54 : (agn υ P).1 54 = υ.1 54 := agn_o _ _ (by omega)
  have e48 : (h11 υ P).1 48 = i32 q := by rw [h11_o _ _ (by decide)]; exact p48
  have e49 : (h11 υ P).1 49 = i32 m := by rw [h11_o _ _ (by decide)]; exact p49
  have e50 : (h11 υ P).1 50 = i32 e := by rw [h11_o _ _ (by decide)]; exact p50
  have e54 : (h11 υ P).1 54 = υ.1 54 := by rw [h11_o _ _ (by decide)]; exact a54
  unfold f_handsTerm B_handsTerm_287 B_handsTerm_375
  rw [h44, z_sub1, m_again hP, Option.bind_some]
  dsimp only
  rw [if_pos c23, z_nn (show P < 2147483648 by omega), show (agn υ P).2.1 23 P = i32 11 from h, if_neg (show ¬ (i32 11 = 0) from by decide), if_neg (show ¬ (i32 11 = 1) from by decide), if_neg (show ¬ (i32 11 = 2) from by decide), if_neg (show ¬ (i32 11 = 3) from by decide), if_neg (show ¬ (i32 11 = 4) from by decide), if_neg (show ¬ (i32 11 = 5) from by decide), if_neg (show ¬ (i32 11 = 6) from by decide), if_neg (show ¬ (i32 11 = 7) from by decide), if_neg (show ¬ (i32 11 = 8) from by decide), if_neg (show ¬ (i32 11 = 9) from by decide), if_neg (show ¬ (i32 11 = 10) from by decide), if_pos (show i32 11 = 11 from rfl), if_pos c30, if_pos c23, a54]
  rw [show setF (setA (setA (agn υ P) 30 P (υ.1 54)) 23 P 12) 52 0 = h11 υ P from rfl, e48, show i32 q + 1 = i32 (q + 1) from by rw [z1, z_add], hb, Option.bind_some]
  dsimp only
  rw [e49, if_neg (show ¬ ((10 : Int32) ≤ i32 m) from by rw [show (10 : Int32) = i32 10 from rfl, z_le (by omega) (by omega)]; omega), e50, e54, show i32 m + 1 = i32 (m + 1) from by rw [z1, z_add]]
  rfl
theorem m_hM12 {υ : MS} {P : Nat} (hP : P < 40) (h44 : υ.1 44 = i32 (P + 1)) (h : υ.2.1 23 P = i32 12) : f_handsTerm υ = (f_joined (i32 44) (υ.2.1 30 P) (υ.1 54) (setF (agn υ P) 44 (i32 P))).bind fun q20 => (f_endsGiven (υ.2.1 24 P) q20.1 q20.2).bind fun q => some (0, q.2) := by
  have c23 : ix (i32 P) (aln 23) = true := c_ix (show P < 40 from hP) (by omega)
  have c24 : ix (i32 P) (aln 24) = true := c23
  have c30 : ix (i32 P) (aln 30) = true := c23
  have a44 : (agn υ P).1 44 = i32 (P + 1) := by rw [agn_o _ _ (by omega)]; exact h44
  have a54 : (setF (agn υ P) 44 (i32 P)).1 54 = υ.1 54 := by rw [setF_ne _ _ (by decide), agn_o _ _ (by omega)]
  unfold f_handsTerm B_handsTerm_375
  rw [h44, z_sub1, m_again hP, Option.bind_some]
  dsimp only
  rw [if_pos c23, z_nn (show P < 2147483648 by omega), show (agn υ P).2.1 23 P = i32 12 from h, if_neg (show ¬ (i32 12 = 0) from by decide), if_neg (show ¬ (i32 12 = 1) from by decide), if_neg (show ¬ (i32 12 = 2) from by decide), if_neg (show ¬ (i32 12 = 3) from by decide), if_neg (show ¬ (i32 12 = 4) from by decide), if_neg (show ¬ (i32 12 = 5) from by decide), if_neg (show ¬ (i32 12 = 6) from by decide), if_neg (show ¬ (i32 12 = 7) from by decide), if_neg (show ¬ (i32 12 = 8) from by decide), if_neg (show ¬ (i32 12 = 9) from by decide), if_neg (show ¬ (i32 12 = 10) from by decide), if_neg (show ¬ (i32 12 = 11) from by decide), if_pos (show i32 12 = 12 from rfl), if_pos c24, if_pos c30, a44, z_sub1, a54]
  rfl
theorem m_hM13 {υ : MS} {P : Nat} (hP : P < 40) (h44 : υ.1 44 = i32 (P + 1)) (h : υ.2.1 23 P = i32 13) : f_handsTerm υ = (f_joined (i32 92) (-9) (υ.1 54) (setF (agn υ P) 44 (i32 P))).bind fun q20 => (f_endsGiven (υ.2.1 24 P) q20.1 q20.2).bind fun q => some (0, q.2) := by
  have c23 : ix (i32 P) (aln 23) = true := c_ix (show P < 40 from hP) (by omega)
  have c24 : ix (i32 P) (aln 24) = true := c23
  have a44 : (agn υ P).1 44 = i32 (P + 1) := by rw [agn_o _ _ (by omega)]; exact h44
  have a54 : (setF (agn υ P) 44 (i32 P)).1 54 = υ.1 54 := by rw [setF_ne _ _ (by decide), agn_o _ _ (by omega)]
  unfold f_handsTerm B_handsTerm_375
  rw [h44, z_sub1, m_again hP, Option.bind_some]
  dsimp only
  rw [if_pos c23, z_nn (show P < 2147483648 by omega), show (agn υ P).2.1 23 P = i32 13 from h, if_neg (show ¬ (i32 13 = 0) from by decide), if_neg (show ¬ (i32 13 = 1) from by decide), if_neg (show ¬ (i32 13 = 2) from by decide), if_neg (show ¬ (i32 13 = 3) from by decide), if_neg (show ¬ (i32 13 = 4) from by decide), if_neg (show ¬ (i32 13 = 5) from by decide), if_neg (show ¬ (i32 13 = 6) from by decide), if_neg (show ¬ (i32 13 = 7) from by decide), if_neg (show ¬ (i32 13 = 8) from by decide), if_neg (show ¬ (i32 13 = 9) from by decide), if_neg (show ¬ (i32 13 = 10) from by decide), if_neg (show ¬ (i32 13 = 11) from by decide), if_neg (show ¬ (i32 13 = 12) from by decide), if_pos c24, a44, z_sub1, a54]
  rfl
variable {L : Lw} {ents : List (Tr × Tr)} {tx : List Nat}
/-- the first sign of the required type -/
theorem rg3 (hw : WL L ents tx) {vt : List Rq} {rq : Rq} {V E T : Nat} {σ : MS} (hs : RS L ents tx σ) (hN : Need L σ V E T vt 3 rq) (hT : T ≤ 9300) (c : Nat) : f_readsGiven (i32 c) σ = B_readsGiven_31 (i32 c) (i32 (hdr rq.1)) σ ∧ hdr rq.1 < 128 := by
  rcases hN with ⟨a, b⟩ | ⟨_, h47, hrq, q, e, h48, h49, h50, hq, hqT, he⟩
  · omega
  · obtain ⟨Γ, w1, w2, w3, w4, w5⟩ := hrq
    have hpr := WT_pr (W34 hw) (RS_fx hs) rq.1 _ w1
    have hpos := pr_pos hpr
    refine ⟨?_, hdr_lt hpr⟩
    unfold f_readsGiven B_readsGiven_13
    rw [if_pos (show σ.1 47 = 3 from h47), if_neg (show ¬ ((1 : Int32) = 0) from by decide), h48, if_pos (c_ix (show q < aln 1 by show q < 9400; omega) (by omega)), z_nn (by omega), hdr_fm hq hpr]
/-- what can't be given -/
theorem CC_bad (hw : WL L ents tx) {vt : List Rq} {p V E T P F : Nat} {σ : MS} (hb : Beg L ents tx vt σ p V E T P F 0) (hp : p < tx.length) (hc : byt tx p = 42 ∨ byt tx p = 44 ∨ byt tx p = 92) (hg : f_readsGiven (i32 (byt tx p)) σ = some (0, σ)) : RunE σ F V E T p := by
  have hb' := hb
  obtain ⟨hv, hs, hd, h44, hP, hpl, h45, h52, hF⟩ := hb
  have hl := hw.2.2.2.1
  have hv10 := hv.1
  obtain ⟨G, rfl⟩ : ∃ G, F = G + 1 := ⟨F - 1, by omega⟩
  have h56 := hd.2.2.2.2.1
  have h57 := hd.2.2.2.2.2.1
  refine E1 (τ := setF σ 57 (i32 p)) (by omega) (by omega) ?_ (setF_eq _ _ _) (kp_setF _ _ _ _ _ _) (ch_setF _ _ (by simp [FR]))
  rw [rd_given hw hb' hp (by unfold stands; omega) (by omega), hg, Option.bind_some]
  dsimp only
  rw [if_pos rfl, h56, m_fails _ h57]
  rfl
end MREAD16

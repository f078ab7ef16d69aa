section MREAD11
variable {L : Lw} {ents : List (Tr × Tr)} {tx : List Nat}
def hM7 (υ : MS) (P : Nat) : MS := due (setF (setA (setA (setA (agn υ P) 30 P (υ.1 54)) 31 P (υ.1 55)) 23 P 8) 52 0) 3 (υ.1 55 + 1) (υ.2.1 25 P) 0
theorem hM_go {υ : MS} {P : Nat} (hP : P < 40) (h44 : υ.1 44 = i32 (P + 1)) : f_again ((υ.1 44) - 1) υ = some (0, agn υ P) := by rw [h44, z_sub1, m_again hP]
theorem m_hM7 {υ : MS} {P : Nat} (hP : P < 40) (h44 : υ.1 44 = i32 (P + 1)) (h : υ.2.1 23 P = i32 7) : f_handsTerm υ = some (0, hM7 υ P) := by
  have c23 : ix (i32 P) (aln 23) = true := c_ix (show P < 40 from hP) (by omega)
  have c30 : ix (i32 P) (aln 30) = true := c23
  have c31 : ix (i32 P) (aln 31) = true := c23
  have a54 : (agn υ P).1 54 = υ.1 54 := agn_o _ _ (by omega)
  have a55 : (setA (agn υ P) 30 P (υ.1 54)).1 55 = υ.1 55 := agn_o υ P (k := 55) (by omega)
  have e1 : (setF (setA (setA (setA (agn υ P) 30 P (υ.1 54)) 31 P (υ.1 55)) 23 P 8) 52 0).1 55 = υ.1 55 := by rw [setF_ne _ _ (by decide)]; exact a55
  have e2 : (setF (setA (setA (setA (agn υ P) 30 P (υ.1 54)) 31 P (υ.1 55)) 23 P 8) 52 0).1 46 = υ.2.1 25 P := by
    rw [setF_ne _ _ (by decide)]
    show (agn υ P).1 46 = _
    unfold agn
    rw [setF_ne _ _ (by decide), setF_ne _ _ (by decide), setF_ne _ _ (by decide), setF_ne _ _ (by decide), setF_eq]
  unfold f_handsTerm B_handsTerm_375
  rw [h44, z_sub1, m_again hP, Option.bind_some]
  dsimp only
  rw [if_pos c23, z_nn (show P < 2147483648 by omega), show (agn υ P).2.1 23 P = i32 7 from h, if_neg (show ¬ (i32 7 = 0) from by decide), if_neg (show ¬ (i32 7 = 1) from by decide), if_neg (show ¬ (i32 7 = 2) from by decide), if_neg (show ¬ (i32 7 = 3) from by decide), if_neg (show ¬ (i32 7 = 4) from by decide), if_neg (show ¬ (i32 7 = 5) from by decide), if_neg (show ¬ (i32 7 = 6) from by decide), if_pos (show i32 7 = 7 from rfl), if_pos c30, if_pos c31, if_pos c23, a54, a55, e1, e2, m_dueTerm, Option.bind_some]
  rfl
theorem m_hM8 {υ : MS} {P : Nat} (hP : P < 40) (h44 : υ.1 44 = i32 (P + 1)) (h : υ.2.1 23 P = i32 8) : f_handsTerm υ = (f_handsGiven (i32 P) (agn υ P)).bind fun q => some (0, q.2) := by
  have c23 : ix (i32 P) (aln 23) = true := c_ix (show P < 40 from hP) (by omega)
  unfold f_handsTerm B_handsTerm_375
  rw [h44, z_sub1, m_again hP, Option.bind_some]
  dsimp only
  rw [if_pos c23, z_nn (show P < 2147483648 by omega), show (agn υ P).2.1 23 P = i32 8 from h, if_neg (show ¬ (i32 8 = 0) from by decide), if_neg (show ¬ (i32 8 = 1) from by decide), if_neg (show ¬ (i32 8 = 2) from by decide), if_neg (show ¬ (i32 8 = 3) from by decide), if_neg (show ¬ (i32 8 = 4) from by decide), if_neg (show ¬ (i32 8 = 5) from by decide), if_neg (show ¬ (i32 8 = 6) from by decide), if_neg (show ¬ (i32 8 = 7) from by decide), if_pos (show i32 8 = 8 from rfl)]
theorem m_hM9 {υ : MS} {P k : Nat} (hP : P < 40) (h44 : υ.1 44 = i32 (P + 1)) (hk : k = 9 ∨ k = 10) (h : υ.2.1 23 P = i32 k) : f_handsTerm υ = (f_handsTaken (i32 P) (agn υ P)).bind fun q => some (0, q.2) := by
  have c23 : ix (i32 P) (aln 23) = true := c_ix (show P < 40 from hP) (by omega)
  unfold f_handsTerm B_handsTerm_375
  rw [h44, z_sub1, m_again hP, Option.bind_some]
  dsimp only
  rw [if_pos c23, z_nn (show P < 2147483648 by omega), show (agn υ P).2.1 23 P = i32 k from h]
  rcases hk with rfl | rfl
  · rw [if_neg (show ¬ (i32 9 = 0) from by decide), if_neg (show ¬ (i32 9 = 1) from by decide), if_neg (show ¬ (i32 9 = 2) from by decide), if_neg (show ¬ (i32 9 = 3) from by decide), if_neg (show ¬ (i32 9 = 4) from by decide), if_neg (show ¬ (i32 9 = 5) from by decide), if_neg (show ¬ (i32 9 = 6) from by decide), if_neg (show ¬ (i32 9 = 7) from by decide), if_neg (show ¬ (i32 9 = 8) from by decide), if_pos (show i32 9 = 9 from rfl)]
  · rw [if_neg (show ¬ (i32 10 = 0) from by decide), if_neg (show ¬ (i32 10 = 1) from by decide), if_neg (show ¬ (i32 10 = 2) from by decide), if_neg (show ¬ (i32 10 = 3) from by decide), if_neg (show ¬ (i32 10 = 4) from by decide), if_neg (show ¬ (i32 10 = 5) from by decide), if_neg (show ¬ (i32 10 = 6) from by decide), if_neg (show ¬ (i32 10 = 7) from by decide), if_neg (show ¬ (i32 10 = 8) from by decide), if_neg (show ¬ (i32 10 = 9) from by decide), if_pos (show i32 10 = 10 from rfl)]
theorem bind_bind2 {f : Option (Int32 × MS)} : ((f.bind fun q => some ((0 : Int32), q.2)).bind fun q => some ((0 : Int32), q.2)) = f.bind fun q => some (0, q.2) := by
  cases f <;> rfl
/-- a component -/
theorem CI_take (hw : WL L ents tx) {rI : RN} {K : Nat} (oI : okI L tx rI) (hI : CI L ents tx rI K) {vt : List Rq} {rq : Rq} {nd p V E T P F k : Nat} {σ : MS} (hb : Beg L ents tx vt σ p V E T P F 0) (hN : Need L σ V E T vt nd rq) (hK : 2 * (33 - p) ≤ K + 2) (hk : (k = 9 ∧ byt tx p = 60) ∨ (k = 10 ∧ byt tx p = 62)) : RunI L ents tx vt σ p V E T P F nd rq ((rI vt (p + 1)).bind fun a => if hdr a.1 = 83 then stl (if k = 9 then nft (fstT a.1) (idr vt.length) vt.length else nft (sndT a.1) (idr vt.length ++ [fstV (evD a.2.1 (idr vt.length))]) vt.length) (if k = 9 then qs (shp (fstT a.1)) (fstV (evD a.2.1 (idr vt.length))) vt.length else qs (shp (sndT a.1)) (sndV (evD a.2.1 (idr vt.length))) vt.length) vt.length p a.2.2 else .error (p + 1)) := by
  have hb' := hb
  obtain ⟨hv, hs, hd, h44, hP, hpl, h45, h52, hF⟩ := hb
  have hv10 := hv.1
  have hl := hw.2.2.2.1
  have hp : p < tx.length := byt_lt (by omega)
  obtain ⟨G, rfl⟩ : ∃ G, F = G + 1 := ⟨F - 1, by omega⟩
  have step := rd_found hw hb' hp (by unfold stands; omega)
  obtain ⟨d1, d19, d21, d46, d56, d57, dV, dE, dT, dT2, dV0, dE0, dn⟩ := hd
  obtain ⟨bc, g1, p1⟩ := beg_child (s := i32 k) (d' := 0) hw hb' hp (Or.inr ⟨rfl, 2, 0, 0, 0, rfl⟩)
  have n47 := (due_p (bgn (setF σ 56 (i32 (p + 1))) P (i32 k) (i32 p)) 2 0 0 0).2.1
  generalize hτ1 : due (bgn (setF σ 56 (i32 (p + 1))) P (i32 k) (i32 p)) 2 0 0 0 = τ1 at bc g1 p1 n47
  have e : f_readsFound (i32 (byt tx p)) σ = some (0, τ1) := by
    unfold f_readsFound B_readsFound_158 B_readsFound_70 B_readsFound_84
    rcases hk with ⟨rfl, hc⟩ | ⟨rfl, hc⟩
    · rw [hc, if_neg (show ¬ (i32 60 = 58) from by decide), if_neg (show ¬ (i32 60 = 46) from by decide), if_pos (show i32 60 = 60 from rfl), if_pos (show i32 60 = 60 from rfl), d56, show i32 p + 1 = i32 (p + 1) from by rw [z1, z_add], m_begins (P := P) _ _ (by rw [setF_ne _ _ (by decide)]; exact h44) (by omega), Option.bind_some]
      dsimp only
      rw [m_dueTerm, Option.bind_some, ← hτ1]
      rfl
    · rw [hc, if_neg (show ¬ (i32 62 = 58) from by decide), if_neg (show ¬ (i32 62 = 46) from by decide), if_neg (show ¬ (i32 62 = 60) from by decide), if_pos (show i32 62 = 62 from rfl), if_neg (show ¬ (i32 62 = 60) from by decide), d56, show i32 p + 1 = i32 (p + 1) from by rw [z1, z_add], m_begins (P := P) _ _ (by rw [setF_ne _ _ (by decide)]; exact h44) (by omega), Option.bind_some]
      dsimp only
      rw [m_dueTerm, Option.bind_some, ← hτ1]
      rfl
  rw [e, Option.bind_some] at step
  have run := hI vt rq 2 (p + 1) V E T (P + 1) G τ1 bc (Or.inl ⟨by omega, n47⟩) (fun h => by omega) (by omega)
  cases hr : rI vt (p + 1) with
  | error e' =>
    rw [hr] at run
    exact RunE_lift step g1.1 g1.2.1 (Nat.le_refl _) (Nat.le_refl _) (Nat.le_refl _) run
  | ok a =>
    rw [hr] at run
    obtain ⟨w1, w2, w3, w4, w5, w6⟩ := oI vt (p + 1) a hv hr
    show RunI L ents tx vt σ p V E T P (G + 1) nd rq (if hdr a.1 = 83 then _ else _)
    by_cases hh : hdr a.1 = 83
    · rw [if_pos hh]
      obtain ⟨F2, υ, V2, E2, T2', y1, y2, ⟨y3, y4, y5, y6, y7, y8, y9, y10, y11, y12, y13, y14⟩, ⟨h, y15, y16, y17⟩, ⟨g, y18, y19, y20⟩⟩ := run.1 (Or.inr (Or.inr (Or.inl ⟨rfl, hh⟩)))
      clear run
      have y4' := y4
      obtain ⟨u1, u19, u21, u46, u56, u57, uV, uE, uT, uT2, uV0, uE0, un'⟩ := y4
      obtain ⟨G2, rfl⟩ : ∃ G2, F2 = (G2 + 1) + 1 := ⟨F2 - 2, by omega⟩
      have pυ := prt_fr p1 y11.2.2
      have step3 := rw_term (F := G2 + 1) u57 y12 (by omega) y13
      have hk' : k = 9 ∨ k = 10 := by omega
      rw [m_hM9 (by omega) y12 hk' pυ.1] at step3
      have ew := hdr_SP (W34 hw).1 w1 (Or.inl rfl) hh
      have esh := shp_SP (Or.inl rfl) ew
      have gυ : GR σ υ V E T P := GR_tr g1 (show GR τ1 υ V E T P from ⟨y11.1, y11.2.1, fun j h1 h2 i hi => y11.2.2 j h1 h2 i (by omega)⟩) (Nat.le_refl _) (Nat.le_refl _) (Nat.le_refl _) (Nat.le_refl _)
      -- the state behind 'again'
      have ga := agn_GR υ P V2 E2 T2' P
      have hsα := RS_kp hw y3 ga.1 uV0 uE0 uT ga.2.1
      obtain ⟨r3, r5, κ, T3, g3, g5, k1, k2, k3, k4, k5, k6, k7, k8, k9, k10, k11⟩ := m_handsTaken (σ := agn υ P) (A := fstT a.1) (B := sndT a.1) (f := a.2.1) hw hsα hv rfl (show P < 40 by omega) (by rw [agn_o _ _ (by omega)]; exact u1) (by rw [agn_o _ _ (by omega)]; exact u19) (by rw [agn_o _ _ (by omega)]; exact u21) (agn_p pυ).1 (by rw [agn_o _ _ (by omega)]; exact y15) (by rw [agn_o _ _ (by omega)]; exact y18) (by rw [agn_o _ _ (by omega)]; exact y12) hk' pυ.1 (by rw [← ew]; exact w1) (by rw [← ew]; exact w3) (by rw [← ew]; exact y19) (by rw [← ew]; exact y20) (by rw [← esh]; exact w2) w4 y16 y17 (by omega) (by omega) (by omega) uV0 uE0 uT
      rw [k1, bind_bind2, bind_run, show (agn υ P).2.1 24 P = i32 p from pυ.2.1] at step3
      have gκ : GR υ κ V2 E2 T2' P := GR_tr ga (GR_Y k2 k3 (by simp only [FY, FR]; intro k hk; simp at hk ⊢; omega) (by simp only [AF, AR]; intro k hk; simp at hk ⊢; omega) (by simp only [AF]; intro k hk; simp at hk; omega)) (Nat.le_refl _) (Nat.le_refl _) (Nat.le_refl _) (Nat.le_refl _)
      have gκP : frp υ κ (P + 1) := fun j h1 h2 i _ => by
        rw [k3.2 j (by simp only [AF]; simp; omega)]
        rfl
      have hsκ := RS_kp hw y3 gκ.1 uV0 uE0 uT gκ.2.1
      have oκ : ∀ k, 51 < k → κ.1 k = υ.1 k := fun k hk => by rw [k3.1 k (by simp only [FY]; simp; omega), agn_o _ _ (by omega)]
      have pκ := prt_fr pυ gκP
      have dκ : DS vt κ V2 E2 T3 a.2.2 := ⟨k6, k4, k5, by rw [k3.1 46 (by simp [FY])]; exact (agn_p pυ).1, by rw [oκ 56 (by omega)]; exact u56, by rw [oκ 57 (by omega)]; exact u57, uV, uE, by omega, by omega, uV0, uE0, fun k rq hk => by
        rw [k3.2 32 (by simp [AF])]
        exact nt_kp (un' k rq hk) gκ.1 k7⟩
      obtain ⟨z1', z2', z3', z4', z5', z6', z7', z8', z9', z10', z11', z12'⟩ := end_state hw (GR_tr gυ gκ y5 y7 y9 (Nat.le_refl _)) hN hsκ dκ pκ (by omega) (by omega) (by omega)
      have a32 : (setF (agn κ P) 44 (i32 P)).2.1 32 = υ.2.1 32 := by
        show κ.2.1 32 = _
        rw [k3.2 32 (by simp [AF])]
        rfl
      generalize setF (agn κ P) 44 (i32 P) = κ' at step3 z1' z2' z3' z4' z5' z6' z7' z8' z9' z10' z11' z12' a32
      have kυκ : kp υ κ' V2 E2 T2' := kp_tr gκ.1 (kp_le z12' (Nat.le_refl _) (Nat.le_refl _) k7) (Nat.le_refl _) (Nat.le_refl _) (Nat.le_refl _)
      have plm : ∀ {t : Tr} {r : Int32} {g : Nat}, plc κ T3 t vt.length r g → plc κ' T3 t vt.length r g := by
        intro t r g hp
        rcases hp with ⟨a, b, c, d⟩ | h
        · exact Or.inl ⟨a, b, kp_fm z12' c d, d⟩
        · exact Or.inr h
      have hrq := rq_id hv10 w1 w3
      have hWn : fits (if k = 9 then nft (fstT a.1) (idr vt.length) vt.length else nft (sndT a.1) (idr vt.length ++ [fstV (evD a.2.1 (idr vt.length))]) vt.length) vt.length → WT L (if k = 9 then nft (fstT a.1) (idr vt.length) vt.length else nft (sndT a.1) (idr vt.length ++ [fstV (evD a.2.1 (idr vt.length))]) vt.length) (ctx vt) := by
        intro hfit
        have hN' := ctx_len vt
        have hid := enE_ctx (L := L) hv10
        have va := (T1 _ _ _ _ _ w2 hid).2.1 rfl
        rw [esh] at va
        have vf : RV L (ctx vt) (shp (fstT a.1)) (fstV (evD a.2.1 (idr vt.length))) := by
          rcases va with ⟨_, x, y, e, h3, h4⟩ | ⟨h, _⟩
          · rw [e]; simpa [fstV] using h3
          · exact absurd h (by decide)
        rcases hk' with rfl | rfl
        · rw [if_pos rfl] at hfit ⊢
          obtain ⟨Γ, w, e1, e2, e3, e4⟩ := rq_fst (W34 hw).1 (Or.inl rfl) hh hrq
          exact nft_WT _ _ _ _ _ w e1 hN' ((dp_nft _ _ _ _ _ w e1 hN').mp hfit.2)
        · rw [if_neg (by decide)] at hfit ⊢
          obtain ⟨Γ, w, e1, e2, e3, e4⟩ := rq_snd (W34 hw).1 (Or.inl rfl) hh hrq (RV_EV _ _ vf)
          exact nft_WT _ _ _ _ _ w e1 hN' ((dp_nft _ _ _ _ _ w e1 hN').mp hfit.2)
      have hf := m_fnd (p := p) hw (kp_rf κ' V2 E2 T2') (ch_rf _ _ κ') k7 (by omega) z2' hv rfl z10' z7' z8' z9' z4' z6' hWn (plm k9) (fun _ => plm k10) (by omega) (by omega) (by omega) uV0 uE0 (fun _ => k11 (y14.2 h y15 (by omega)))
      exact FndRun hw (step.trans (y2.trans step3)) (by omega) (by omega) (by omega) (by omega) (by omega) z1' z2' z3' z4' z5' (fun k rq hk => by rw [a32]; exact nt_kp (un' k rq hk) kυκ (Nat.le_refl _)) (by omega) (by omega) (by omega) (by omega) (by omega) (by omega) dV dE dT dT2 dV0 dE0 hf
    · rw [if_neg hh]
      have := run.2 (fun h => by rcases h with h | ⟨h, _⟩ | ⟨_, h⟩ | ⟨h, _⟩ <;> omega)
      exact RunE_lift step g1.1 g1.2.1 (Nat.le_refl _) (Nat.le_refl _) (Nat.le_refl _) this
end MREAD11

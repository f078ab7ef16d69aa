section MREAD10
variable {L : Lw} {ents : List (Tr × Tr)} {tx : List Nat}
theorem fits_A {c : Nat} {A B : Tr} {n : Nat} (hc : c = 83 ∨ c = 80) (h : fits (.branch c A B) n) : fits A n := by
  have hl : ln (.branch c A B) ≤ 50 := h.1
  exact ⟨(ln_parts hl).1, ((dp_SP hc).mp h.2).1⟩
theorem fits_44 {a b : Tr} {n : Nat} (h : fits (.branch 44 a b) n) : fits a n ∧ fits b n := by
  have hl : ln (.branch 44 a b) ≤ 50 := h.1
  have hd := h.2
  simp only [dp] at hd
  exact ⟨⟨(ln_parts hl).1, hd.1⟩, ⟨(ln_parts hl).2, hd.2⟩⟩
/-- a component of a pair is taken: type and term of what comes -/
theorem m_handsTaken (hw : WL L ents tx) {σ : MS} {V E T n P gf gF k : Nat} {vt : List Rq} {f A B : Tr} (hs : RS L ents tx σ) (hv : vtOK L vt) (hn : vt.length = n) (hP : P < 40) (h1 : σ.1 1 = i32 T) (h19 : σ.1 19 = i32 V) (h21 : σ.1 21 = i32 E) (h46 : σ.1 46 = i32 n) (h54 : σ.1 54 = i32 gf) (h55 : σ.1 55 = i32 gF) (h44 : σ.1 44 = i32 (P + 1)) (hk : k = 9 ∨ k = 10) (h23 : σ.2.1 23 P = i32 k)
    (hF : WT L (.branch 83 A B) (ctx vt)) (hFf : fits (.branch 83 A B) n) (hFm : fm (σ.2.1 1) (.branch 83 A B) gF) (hFT : gF + ln (.branch 83 A B) ≤ T)
    (hf : HT L f (ctx vt) true (.branch 83 (shp A) (shp B))) (hff : fits f n) (hfm : fm (σ.2.1 1) f gf) (hfT : gf + ln f ≤ T)
    (b1 : T + 200 ≤ 9400) (b2 : E ≤ 40) (b3 : V + 1400 ≤ 2400) (b4 : 20 ≤ V) (b6 : 1 ≤ E) (bT : 1734 ≤ T) :
    ∃ r3 r5 κ T1 g3 g5, f_handsTaken (i32 P) σ = (f_endsFound (σ.2.1 24 P) r3 r5 (setF (agn κ P) 44 (i32 P))).bind (fun q => some (0, q.2)) ∧ kp σ κ V E T ∧ ch FY AF σ κ ∧ κ.1 19 = i32 V ∧ κ.1 21 = i32 E ∧ κ.1 1 = i32 T1 ∧ T ≤ T1 ∧ T1 ≤ T + 100 ∧ plc κ T1 (if k = 9 then nft A (idr n) n else nft B (idr n ++ [fstV (evD f (idr n))]) n) n r3 g3 ∧ plc κ T1 (if k = 9 then qs (shp A) (fstV (evD f (idr n))) n else qs (shp B) (sndV (evD f (idr n))) n) n r5 g5 ∧ (1734 ≤ gf → 1734 ≤ g5) := by
  have hv10 := hv.1
  have hnn : (ctx vt).length = n := by rw [ctx_len]; exact hn
  obtain ⟨_, wA, wB⟩ := WT_SP hF (Or.inl rfl)
  obtain ⟨dA, dn, dB⟩ := (dp_SP (Or.inl rfl)).mp hFf.2
  obtain ⟨a, b, rfl, ha, hb⟩ := pair_form hf
  have hFl : ln (.branch 83 A B) ≤ 50 := hFf.1
  have hfl : ln (.branch 44 a b) ≤ 50 := hff.1
  have lF : ln (.branch 83 A B) = 1 + ln A + ln B := ln_br _ _ _
  have lf : ln (.branch 44 a b) = 1 + ln a + ln b := ln_br _ _ _
  obtain ⟨fa, fb⟩ := fits_44 hff
  have hfst : fstV (evD (.branch 44 a b) (idr n)) = evD a (idr n) := by simp [evD, fstV]
  have hsnd : sndV (evD (.branch 44 a b) (idr n)) = evD b (idr n) := by simp [evD, sndV]
  have hqa : qs (shp A) (evD a (idr n)) n = a := qs_id a _ _ n hnn ha
  have hqb : qs (shp B) (evD b (idr n)) n = b := qs_id b _ _ n hnn hb
  have hnA : nft A (idr n) n = A := by
    have := nft_id A (ctx vt) wA (by rw [hnn]; exact dA)
    rwa [hnn] at this
  have c24 : ix (i32 P) (aln 24) = true := c_ix (show P < 40 from hP) (by omega)
  have c23 : ix (i32 P) (aln 23) = true := c24
  have e119 : ∀ (κ : MS) (x y : Int32), κ.1 44 = i32 (P + 1) → κ.2.1 24 P = σ.2.1 24 P → B_handsTaken_119 (i32 P) x y κ = (f_endsFound (σ.2.1 24 P) y x (setF (agn κ P) 44 (i32 P))).bind (fun q => some (0, q.2)) := by
    intro κ x y g1 g2
    have a44 : (agn κ P).1 44 = i32 (P + 1) := by rw [agn_o _ _ (by omega)]; exact g1
    unfold B_handsTaken_119
    rw [m_again hP, Option.bind_some]
    dsimp only
    rw [if_pos c24, a44, z_sub1, z_nn (show P < 2147483648 by omega), show (setF (agn κ P) 44 (i32 P)).2.1 24 P = σ.2.1 24 P from g2]
  rcases hk with rfl | rfl
  · refine ⟨i32 (gF + 1), i32 (gf + 1), σ, T, gF + 1, gf + 1, ?_, kp_rf _ _ _ _, ch_rf _ _ _, h19, h21, h1, Nat.le_refl _, by omega, ?_, ?_, fun _ => by omega⟩
    · unfold f_handsTaken B_handsTaken_16
      rw [if_pos c23, z_nn (show P < 2147483648 by omega), h23, if_pos (show i32 9 = 9 from rfl), if_neg (show ¬ ((1 : Int32) = 0) from by decide), h54, h55, show i32 gf + 1 = i32 (gf + 1) from by rw [z1, z_add], show i32 gF + 1 = i32 (gF + 1) from by rw [z1, z_add]]
      exact e119 σ _ _ h44 rfl
    · rw [if_pos rfl, hnA]
      exact Or.inl ⟨fits_A (Or.inl rfl) hFf, rfl, hFm.2.1, by omega⟩
    · rw [if_pos rfl, hfst, hqa]
      exact Or.inl ⟨fa, rfl, hfm.2.1, by omega⟩
  · have hprA := WT_pr (W34 hw) (RS_fx hs) _ _ wA
    obtain ⟨v, τ, V1, t1, t2, t3, t4, t5, t6, t7⟩ := m_valueOf (h := gf + 1) (T := T) hw hs hv hn ha fa hfm.2.1 (by omega) (by omega) h19 h46 (show E ≤ 42 by omega) (by omega) b4 b6
    have hval := (T1 _ _ _ _ _ ha (enE_id (L := L) (N := ctx vt) (by omega))).2.1 rfl
    rw [hnn] at hval
    have e46 : τ.1 46 = i32 n := by rw [t7.1 46 (by simp)]; exact h46
    have e21 : τ.1 21 = i32 E := by rw [t7.1 21 (by simp)]; exact h21
    have hs1 := RS_kp hw hs t6 b4 b6 bT (ch_mo t7 (by simp [FR]) (by simp [AR]))
    obtain ⟨ω, w1, w2, w3, w4, w5, _⟩ := m_with (e := 0) (lv := n) (q := v) (ρ := idr n) (rp_kp t6 t3 (Nat.le_refl _) (Nat.le_refl _) _ _ _ (rp_id hs b4 b6 n (by omega))) (idr_len n) dn t5 e21 (by omega)
    have o46 : ω.1 46 = i32 n := by rw [w5.1 46 (by simp)]; exact e46
    have o19 : ω.1 19 = i32 V1 := by rw [w5.1 19 (by simp)]; exact t2
    have o1 : ω.1 1 = i32 T := by rw [w5.1 1 (by simp), t7.1 1 (by simp)]; exact h1
    have kω : kp σ ω V E T := kp_tr t6 w4 t3 (Nat.le_refl _) (Nat.le_refl _)
    have hs2 := RS_kp hw hs1 (kp_le w4 (Nat.le_refl _) (Nat.le_refl _) (Nat.le_refl _)) (by omega) b6 bT (ch_mo w5 (by simp [FR]) (by simp [AR]))
    have hbh : f_behind (i32 (gF + 1)) ω = some (i32 (gF + 1 + ln A), ω) := m_behind (by rw [kp_fx kω]; exact hprA) (kp_fm kω hFm.2.1 (by omega)) (by omega)
    have en : enV L (ctx vt) (idr n ++ [evD a (idr n)]) (ctx vt ++ [shp A]) := by
      have e1 := enV_id (L := L) (N := ctx vt) (by omega)
      rw [hnn] at e1
      exact enV_snoc e1 (RV_EV _ _ hval)
    have hprB := WT_pr (W34 hw) (RS_fx hs2) _ _ wB
    obtain ⟨r3, κ3, y1, y2, y3, y4, y5, y6⟩ := m_typeBy (names := n) (base := n + 1) (e := E) (W34 hw).2 wB en hnn (by omega) (by simp [idr_len]) (by simpa using dB) (by omega) hprB (kp_fm kω hFm.2.2 (by omega)) (by omega) (by omega) o1 o19 w2 w3 (by omega) (by omega) (by omega) (by omega) (RS_nm hs2)
    have kκ : kp σ (setF (setF κ3 19 (i32 V)) 21 (i32 E)) V E T := kp_tr kω (kp_tr (kp_le y2 (Nat.le_refl _) (Nat.le_refl _) (Nat.le_refl _)) (kp_tr (kp_setF κ3 19 (i32 V) V1 (E + 1) T) (kp_setF _ 21 _ _ _ _) (Nat.le_refl _) (Nat.le_refl _) (Nat.le_refl _)) (Nat.le_refl _) (Nat.le_refl _) (Nat.le_refl _)) t3 (by omega) (Nat.le_refl _)
    have cω : ch FY AF σ ω := ch_tr (ch_mo t7 (by simp [FY]) (by simp [AF])) (ch_mo w5 (by simp [FY]) (by simp [AF]))
    have cκ : ch FY AF σ (setF (setF κ3 19 (i32 V)) 21 (i32 E)) := ch_tr cω (ch_tr (cYA y3) (ch_tr (ch_setF _ _ (by simp [FY])) (ch_setF _ _ (by simp [FY]))))
    have hpa := HT_pr (W34 hw).2 (fxM (setF (setF κ3 19 (i32 V)) 21 (i32 E))) _ _ _ _ ha
    have hba : f_behind (i32 (gf + 1)) (setF (setF κ3 19 (i32 V)) 21 (i32 E)) = some (i32 (gf + 1 + ln a), setF (setF κ3 19 (i32 V)) 21 (i32 E)) := m_behind hpa (kp_fm kκ hfm.2.1 (by omega)) (by omega)
    have main : ∀ T3, T ≤ T3 → T3 ≤ T + 100 → κ3.1 1 = i32 T3 → plc κ3 T3 (nft B (idr n ++ [evD a (idr n)]) n) n r3 T → ∃ r3 r5 κ T1 g3 g5, f_handsTaken (i32 P) σ = (f_endsFound (σ.2.1 24 P) r3 r5 (setF (agn κ P) 44 (i32 P))).bind (fun q => some (0, q.2)) ∧ kp σ κ V E T ∧ ch FY AF σ κ ∧ κ.1 19 = i32 V ∧ κ.1 21 = i32 E ∧ κ.1 1 = i32 T1 ∧ T ≤ T1 ∧ T1 ≤ T + 100 ∧ plc κ T1 (if 10 = 9 then nft A (idr n) n else nft B (idr n ++ [fstV (evD (.branch 44 a b) (idr n))]) n) n r3 g3 ∧ plc κ T1 (if 10 = 9 then qs (shp A) (fstV (evD (.branch 44 a b) (idr n))) n else qs (shp B) (sndV (evD (.branch 44 a b) (idr n))) n) n r5 g5 ∧ (1734 ≤ gf → 1734 ≤ g5) := by
      intro T3 a1 a2 a3 a4
      refine ⟨r3, i32 (gf + 1 + ln a), setF (setF κ3 19 (i32 V)) 21 (i32 E), T3, T, gf + 1 + ln a, ?_, kκ, cκ, by rw [setF_ne _ _ (by decide)]; exact setF_eq _ _ _, setF_eq _ _ _, by rw [setF_ne _ _ (by decide), setF_ne _ _ (by decide)]; exact a3, a1, a2, ?_, ?_, fun _ => by omega⟩
      · unfold f_handsTaken B_handsTaken_16
        rw [if_pos c23, z_nn (show P < 2147483648 by omega), h23, if_neg (show ¬ (i32 10 = 9) from by decide), if_pos rfl, h46, if_neg (show ¬ ((10 : Int32) ≤ i32 n) from by rw [show (10 : Int32) = i32 10 from rfl, z_le (by omega) (by omega)]; omega), h54, h55, h19, h21, show i32 gf + 1 = i32 (gf + 1) from by rw [z1, z_add], show i32 gF + 1 = i32 (gF + 1) from by rw [z1, z_add]]
        unfold B_handsTaken_67
        rw [t1, Option.bind_some]
        dsimp only
        rw [show (0 : Int32) = i32 0 from rfl, w1, Option.bind_some]
        dsimp only
        rw [hbh, Option.bind_some]
        dsimp only
        rw [o46, show i32 n + 1 = i32 (n + 1) from by rw [z1, z_add], y1, Option.bind_some]
        dsimp only
        rw [hba, Option.bind_some]
        dsimp only
        rw [e119 _ _ _ (by rw [cκ.1 44 (by simp [FY])]; exact h44) (by rw [cκ.2 24 (by simp [AF])])]
        rfl
      · rw [if_neg (by decide), hfst]
        exact a4
      · rw [if_neg (by decide), hsnd, hqb]
        exact Or.inl ⟨fb, rfl, kp_fm kκ hfm.2.2 (by omega), by omega⟩
    rcases y6 with ⟨a', b', c', d'⟩ | ⟨a', b', c'⟩
    · have : ln (nft B (idr n ++ [evD a (idr n)]) n) ≤ 50 := a'.1
      exact main _ (by omega) (by omega) c' (Or.inl ⟨a', b', d', Nat.le_refl _⟩)
    · exact main T (Nat.le_refl _) (by omega) c' (Or.inr ⟨a', b'⟩)
end MREAD10

section MREAD6
variable {L : Lw} {ents : List (Tr × Tr)} {tx : List Nat}
theorem Fnd_bind {σ : MS} {f : Option (Int32 × MS)} {V E T p n nd : Nat} {rq : Rq} {Ty t : Tr} (hf : Fnd σ f V E T p n nd rq Ty t) : Fnd σ (f.bind fun q1 => some (0, q1.2)) V E T p n nd rq Ty t := by
  constructor
  · intro h
    obtain ⟨τ, T', g, h', e, rest⟩ := hf.1 h
    exact ⟨τ, T', g, h', by rw [e]; rfl, rest⟩
  · intro h
    obtain ⟨τ, e, rest⟩ := hf.2 h
    exact ⟨τ, by rw [e]; rfl, rest⟩
/-- a name -/
theorem CI_name (hw : WL L ents tx) {vt : List Rq} {rq : Rq} {nd p V E T P F : Nat} {σ : MS} (hb : Beg L ents tx vt σ p V E T P F 0) (hN : Need L σ V E T vt nd rq) (hc : 48 ≤ byt tx p ∧ byt tx p - 48 < vt.length) : RunI L ents tx vt σ p V E T P F nd rq (stl (nft (vt.getD (byt tx p - 48) (.leaf 0, [])).1 (vt.getD (byt tx p - 48) (.leaf 0, [])).2 vt.length) (et (shp (vt.getD (byt tx p - 48) (.leaf 0, [])).1) (nm (byt tx p - 48)) vt.length) vt.length p (p + 1)) := by
  have hb' := hb
  obtain ⟨hv, hs, hd, h44, hP, hpl, h45, h52, hF⟩ := hb
  have hv10 := hv.1
  have hl := hw.2.2.2.1
  have hp : p < tx.length := byt_lt (by omega)
  obtain ⟨G, rfl⟩ : ∃ G, F = G + 1 := ⟨F - 1, by omega⟩
  have step := rd_found hw hb' hp (Or.inl hc)
  obtain ⟨d1, d19, d21, d46, d56, d57, dV, dE, dT, dT2, dV0, dE0, dn⟩ := hd
  have hk : vt[byt tx p - 48]? = some (vt.getD (byt tx p - 48) (.leaf 0, [])) := by simp [hc.2]
  generalize vt.getD (byt tx p - 48) (.leaf 0, []) = rq' at hk ⊢
  generalize hcc : byt tx p = c at *
  have g1 : GR σ (setF σ 56 (i32 (p + 1))) V E T P := GR_F σ _ (by simp [FR]) V E T P
  have hs1 := RS_kp hw hs g1.1 dV0 dE0 dT g1.2.1
  obtain ⟨Γ, w1, w2, _⟩ := hv.2 _ _ hk
  have hN1 : Need L (setF σ 56 (i32 (p + 1))) V E T vt nd rq := Need_kp hN g1.1 (Nat.le_refl _) (Nat.le_refl _) (Nat.le_refl _) (fun k h1 h2 => setF_ne _ _ (by omega))
  have hnm : rpM (setF σ 56 (i32 (p + 1))) V E T false (nm (c - 48)) (c - 48) := ⟨by omega, Or.inl ⟨by omega, by omega, by rw [RS_nm hs1 _ (by omega)]; congr 1; omega⟩⟩
  have hf := m_readsSimple (p := p) hw hs1 hv rfl (show c - 48 ≤ vt.length by omega) w1 w2 (nt_kp (dn _ _ hk) g1.1 (Nat.le_refl _)) (HT_nmi (N := ctx vt) (i := c - 48) (by rw [ctx, List.getElem?_map, hk]; rfl) (by omega)) hnm hN1 (by rw [setF_ne _ _ (by decide)]; exact d1) (by rw [setF_ne _ _ (by decide)]; exact d19) (by rw [setF_ne _ _ (by decide)]; exact d21) (by rw [setF_ne _ _ (by decide)]; exact d46) (by rw [setF_ne _ _ (by decide)]; exact d57) (by omega) (by omega) (by omega) dV0 dE0 dT
  have e : f_readsFound (i32 c) σ = (f_readsSimple (i32 p) (i32 (c - 48)) (σ.2.1 32 (c - 48)) (i32 (c - 48)) (setF σ 56 (i32 (p + 1)))).bind fun q1 => some (0, q1.2) := by
    unfold f_readsFound B_readsFound_158
    rw [if_neg (show ¬ (i32 c = 58) from c_eq (b := 58) (by omega) (by omega) (by omega)), if_neg (show ¬ (i32 c = 46) from c_eq (b := 46) (by omega) (by omega) (by omega)), if_neg (show ¬ (i32 c = 60) from c_eq (b := 60) (by omega) (by omega) (by omega)), if_neg (show ¬ (i32 c = 62) from c_eq (b := 62) (by omega) (by omega) (by omega)), if_pos (show i32 c < 97 from by rw [show (97 : Int32) = i32 97 from rfl, z_lt (by omega) (by omega)]; omega), z_sub48 hc.1, if_pos (c_ix (show c - 48 < aln 32 by show c - 48 < 10; omega) (by omega)), z_nn (by omega), d56, show i32 p + 1 = i32 (p + 1) from by rw [z1, z_add]]
    rfl
  rw [e] at step
  exact FndRun hw step (by omega) (by omega) (by omega) (by omega) (by omega) g1 hs1 (by rw [setF_ne _ _ (by decide)]; exact h44) (by rw [setF_ne _ _ (by decide)]; exact d46) (setF_eq _ _ _) (fun k rq hk => nt_kp (dn k rq hk) g1.1 (Nat.le_refl _)) (Nat.le_refl _) (by omega) (Nat.le_refl _) (by omega) (Nat.le_refl _) (by omega) dV dE dT dT2 dV0 dE0 (Fnd_bind hf)
/-- a constant -/
theorem CI_const (hw : WL L ents tx) {vt : List Rq} {rq : Rq} {nd p V E T P F : Nat} {σ : MS} (hb : Beg L ents tx vt σ p V E T P F 0) (hN : Need L σ V E T vt nd rq) (hc : 97 ≤ byt tx p ∧ byt tx p - 97 < L.2.length) : RunI L ents tx vt σ p V E T P F nd rq (stl (nft (L.2.getD (byt tx p - 97) (.leaf 0)) [] vt.length) (et (shp (L.2.getD (byt tx p - 97) (.leaf 0))) (.leaf (byt tx p)) vt.length) vt.length p (p + 1)) := by
  have hb' := hb
  obtain ⟨hv, hs, hd, h44, hP, hpl, h45, h52, hF⟩ := hb
  have hv10 := hv.1
  have hl := hw.2.2.2.1
  have hl4 := (W34 hw).2
  have hp : p < tx.length := byt_lt (by omega)
  obtain ⟨G, rfl⟩ : ∃ G, F = G + 1 := ⟨F - 1, by omega⟩
  have step := rd_found hw hb' hp (Or.inr (Or.inl hc))
  obtain ⟨d1, d19, d21, d46, d56, d57, dV, dE, dT, dT2, dV0, dE0, dn⟩ := hd
  have hk : L.2[byt tx p - 97]? = some (L.2.getD (byt tx p - 97) (.leaf 0)) := by simp [hc.2]
  generalize L.2.getD (byt tx p - 97) (.leaf 0) = T' at hk ⊢
  generalize hcc : byt tx p = c at *
  obtain ⟨w1, w2⟩ := hw.1.2.2.2 _ _ hk
  have e0 : nft T' [] 0 = T' := nft_id T' [] w1 w2.2
  generalize hσ2 : lay (setF σ 56 (i32 (p + 1))) V (pk 1 c 0 0) = σ2
  have k1 : kp σ σ2 V E T := by
    rw [← hσ2]
    exact kp_tr (kp_setF σ 56 _ V E T) (lay_kp _ _ _ _ _) (Nat.le_refl _) (Nat.le_refl _) (Nat.le_refl _)
  have c1 : ch FR AR σ σ2 := by rw [← hσ2]; exact ch_tr (ch_setF _ _ (by simp [FR])) (lay_ch _ _ _ _ (by simp [FR]))
  have g1 : GR σ σ2 V E T P := ⟨k1, c1, fun j _ _ i _ => by rw [← hσ2]; rfl⟩
  have hs1 := RS_kp hw hs k1 dV0 dE0 dT c1
  have o1 : ∀ k, k ≠ 56 → k ≠ 19 → σ2.1 k = σ.1 k := fun k h1 h2 => by
    rw [← hσ2, (lay_ch (F := [19]) [] (setF σ 56 (i32 (p + 1))) V _ (by simp)).1 k (by simpa using h2), setF_ne _ _ h1]
  have f19 : σ2.1 19 = i32 (V + 1) := by rw [← hσ2]; exact lay_19 _ _ _
  have f56 : σ2.1 56 = i32 (p + 1) := by rw [← hσ2, (lay_ch (F := [19]) [] (setF σ 56 (i32 (p + 1))) V _ (by simp)).1 56 (by simp)]; exact setF_eq _ _ _
  have kV : kp σ2 σ2 (V + 1) E T := kp_rf _ _ _ _
  have hN1 : Need L σ2 (V + 1) E T vt nd rq := Need_kp hN k1 (by omega) (Nat.le_refl _) (Nat.le_refl _) (fun k h1 h2 => o1 k (by omega) (by omega))
  have hrv : rpM σ2 (V + 1) E T false (.leaf c) V := ⟨by omega, Or.inr (Or.inl ⟨hc.1, by omega, by rw [← hσ2]; exact lay_V _ _ _⟩)⟩
  obtain ⟨la, hla, hla2, _, hcon⟩ := hs1.2.2.2.2.1
  have hx : ntOK σ2 T (T', []) 0 (i32 (la + 51 * (3 + (c - 97)))) := by
    refine Or.inl ⟨by show fits (nft T' [] 0) 0; rw [e0]; exact w2, _, rfl, by show fm _ (nft T' [] 0) _; rw [e0]; exact hcon _ _ hk, ?_⟩
    show _ + ln (nft T' [] 0) ≤ T
    rw [e0]
    have : ln T' ≤ 50 := w2.1
    omega
  have hht : HT L (.leaf c) (ctx vt) false (shp T') := by
    rw [HT.eq_1]
    refine Or.inr ⟨fun h => by simp at h, ?_⟩
    unfold hdS
    rw [if_neg (by omega), if_pos hc.1, hk]; rfl
  have hf := m_readsSimple (p := p) (rq := (T', [])) hw hs1 hv rfl (Nat.zero_le _) w1 (enV_nil L _) hx hht hrv hN1 (by rw [o1 1 (by decide) (by decide)]; exact d1) f19 (by rw [o1 21 (by decide) (by decide)]; exact d21) (by rw [o1 46 (by decide) (by decide)]; exact d46) (by rw [o1 57 (by decide) (by decide)]; exact d57) (by omega) (by omega) (by omega) (by omega) dE0 dT
  have e : f_readsFound (i32 c) σ = (f_readsSimple (i32 p) (i32 V) (i32 (la + 51 * (3 + (c - 97)))) (i32 0) σ2).bind fun q1 => some (0, q1.2) := by
    unfold f_readsFound B_readsFound_158
    rw [if_neg (show ¬ (i32 c = 58) from c_eq (b := 58) (by omega) (by omega) (by omega)), if_neg (show ¬ (i32 c = 46) from c_eq (b := 46) (by omega) (by omega) (by omega)), if_neg (show ¬ (i32 c = 60) from c_eq (b := 60) (by omega) (by omega) (by omega)), if_neg (show ¬ (i32 c = 62) from c_eq (b := 62) (by omega) (by omega) (by omega)), if_neg (show ¬ (i32 c < 97) from by rw [show (97 : Int32) = i32 97 from rfl, z_lt (by omega) (by omega)]; omega), d56, show i32 p + 1 = i32 (p + 1) from by rw [z1, z_add]]
    rw [show f_lays 1 (i32 c) 0 0 (setF σ 56 (i32 (p + 1))) = some (i32 V, σ2) from by
      rw [← hσ2]
      exact m_lays (s := 1) (a := c) (b := 0) (l := 0) (by rw [setF_ne _ _ (by decide)]; exact d19) (by omega) (by omega) (by omega) (by omega) (by omega), Option.bind_some]
    dsimp only
    rw [hla, show (51 : Int32) * (3 + i32 c - 97) = i32 (51 * (3 + (c - 97))) from by
      rw [z3, z97, z_add, z_sub (by omega), z51, z_mul]; congr 1; omega, z_add]
    rfl
  rw [e] at step
  exact FndRun hw step (by omega) (by omega) (by omega) (by omega) (by omega) g1 hs1 (by rw [o1 44 (by decide) (by decide)]; exact h44) (by rw [o1 46 (by decide) (by decide)]; exact d46) f56 (fun k rq hk => by rw [show σ2.2.1 32 k = σ.2.1 32 k from by rw [← hσ2]; rfl]; exact nt_kp (dn k rq hk) k1 (Nat.le_refl _)) (by omega) (by omega) (Nat.le_refl _) (by omega) (Nat.le_refl _) (by omega) dV dE dT dT2 dV0 dE0 (Fnd_bind hf)
end MREAD6

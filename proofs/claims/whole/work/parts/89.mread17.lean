section MREAD17
variable {L : Lw} {ents : List (Tr × Tr)} {tx : List Nat}
theorem pt_GR (σ : MS) (T : Nat) (c : Int32) (V E P : Nat) : GR σ (pt σ T c) V E T P := GR_Y (pt_kp _ _ _ _ _) (pt_ch (F := [1]) (A := [1]) _ _ _ (by simp) (by simp)) (by simp [FR]) (by simp [AR]) (by simp)
/-- the star -/
theorem CC_star (hw : WL L ents tx) {vt : List Rq} {rq : Rq} {p V E T P F : Nat} {σ : MS} (hb : Beg L ents tx vt σ p V E T P F 0) (hN : Need L σ V E T vt 3 rq) (hc : byt tx p = 42) : RunC L ents tx vt σ p V E T P F 2 (if hdr rq.1 = 49 then .ok (.leaf 42, p + 1) else .error p) := by
  have hb' := hb
  obtain ⟨hv, hs, hd, h44, hP, hpl, h45, h52, hF⟩ := hb
  have hv10 := hv.1
  have hl := hw.2.2.2.1
  have hp : p < tx.length := byt_lt (by omega)
  obtain ⟨d1, d19, d21, d46, d56, d57, dV, dE, dT, dT2, dV0, dE0, dn⟩ := hd
  obtain ⟨rg, hlt⟩ := rg3 hw hs hN (by omega) 42
  by_cases hh : hdr rq.1 = 49
  · rw [if_pos hh]
    obtain ⟨G, rfl⟩ : ∃ G, F = G + 1 := ⟨F - 1, by omega⟩
    have step := rd_given hw hb' hp (by unfold stands; omega) (by omega)
    rw [hc, rg, hh] at step
    have e1 : (setF σ 56 (i32 (p + 1))).1 1 = i32 T := by rw [setF_ne _ _ (by decide)]; exact d1
    have eR : B_readsGiven_31 (i32 42) (i32 49) σ = (f_endsGiven (i32 p) (i32 T) (pt (setF σ 56 (i32 (p + 1))) T (i32 42))).bind fun q2 => some (1, q2.2) := by
      unfold B_readsGiven_31
      rw [if_pos (show i32 42 = 42 from rfl), if_pos (show i32 49 = 49 from rfl), d56, show i32 p + 1 = i32 (p + 1) from by rw [z1, z_add], e1, show (42 : Int32) = i32 42 from rfl, m_puts _ e1 (by omega), Option.bind_some]
    have st : L_readsWhole_15 (G + 1) σ = (f_endsGiven (i32 p) (i32 T) (pt (setF σ 56 (i32 (p + 1))) T (i32 42))).bind fun q => L_readsWhole_15 G q.2 := by
      rw [step, eR]
      cases f_endsGiven (i32 p) (i32 T) (pt (setF σ 56 (i32 (p + 1))) T (i32 42)) with
      | none => rfl
      | some q =>
        rw [Option.bind_some, Option.bind_some, Option.bind_some]
        dsimp only
        rw [if_neg (show ¬ ((1 : Int32) = 0) from by decide)]
    have gκ : GR σ (pt (setF σ 56 (i32 (p + 1))) T (i32 42)) V E T P := GR_tr (GR_F σ _ (by simp [FR]) V E T P) (pt_GR _ _ _ V E P) (Nat.le_refl _) (Nat.le_refl _) (Nat.le_refl _) (Nat.le_refl _)
    have o : ∀ k, k ≠ 1 → k ≠ 56 → (pt (setF σ 56 (i32 (p + 1))) T (i32 42)).1 k = σ.1 k := fun k a b => by rw [pt_ne _ _ _ a, setF_ne _ _ b]
    have k56 : (pt (setF σ 56 (i32 (p + 1))) T (i32 42)).1 56 = i32 (p + 1) := by rw [pt_ne _ _ _ (by decide)]; exact setF_eq _ _ _
    have k1 := pt_1 (setF σ 56 (i32 (p + 1))) T (i32 42)
    have kT := pt_at (setF σ 56 (i32 (p + 1))) T (i32 42)
    have k32 : (pt (setF σ 56 (i32 (p + 1))) T (i32 42)).2.1 32 = σ.2.1 32 := pt_arr _ _ _ (by decide)
    generalize pt (setF σ 56 (i32 (p + 1))) T (i32 42) = κ at st gκ o k56 k1 kT k32
    have := jnRun (vt := vt) (t := .leaf 42) (k := 2) (q := p + 1) (F := G) (V1 := V) (E1 := E) (T1 := T + 1) hw st (Or.inr ⟨rfl, rfl⟩) (by omega) (by omega) (by omega) (by omega) gκ (RS_kp hw hs gκ.1 dV0 dE0 dT gκ.2.1) (by rw [o 44 (by decide) (by decide)]; exact h44) ⟨k1, by rw [o 19 (by decide) (by decide)]; exact d19, by rw [o 21 (by decide) (by decide)]; exact d21, by rw [o 46 (by decide) (by decide)]; exact d46, k56, by rw [o 57 (by decide) (by decide)]; exact d57, by omega, by omega, by omega, by omega, dV0, dE0, fun k rq hk => by rw [k32]; exact nt_kp (dn k rq hk) gκ.1 (by omega)⟩ (by omega) (by omega) (by omega) (by omega) (by omega) (by omega) (show (42 : Nat) ≠ 0 ∧ 42 < 128 ∧ ar (fxM κ) 42 = 0 from ⟨by decide, by decide, by simp [ar]⟩) (fun _ => kT) (by rw [ln_leaf (by decide)]; omega) dT
    rw [show jn (.leaf 42) p (p + 1) = .ok (.leaf 42, p + 1) from cif_pos (by rw [ln_leaf (by decide)]; omega) _ _] at this
    exact this
  · rw [if_neg hh]
    refine CC_bad hw hb' hp (Or.inl hc) ?_
    rw [hc, rg]
    unfold B_readsGiven_31 B_readsGiven_82 B_readsGiven_133 B_readsGiven_260
    rw [if_pos (show i32 42 = 42 from rfl), if_neg (show ¬ (i32 (hdr rq.1) = 49) from c_eq (b := 49) hh (by omega) (by omega)), if_neg (show ¬ (i32 42 = 44) from by decide), if_neg (show ¬ (i32 42 = 92) from by decide)]
end MREAD17

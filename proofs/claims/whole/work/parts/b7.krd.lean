section KRD
variable {L : Lw} {ents : List (Tr × Tr)} {tx : List Nat}
def RnT (f : Option (Int32 × CS)) (vt : List Rq) (σ : CS) (p V T : Nat) (r : Except Nat (Tr × Nat)) : Prop :=
  match r with
  | .ok y => ∃ g τ V' T', f = some (i32 g, τ) ∧ τ.1 38 4 = i32 V' ∧ V ≤ V' ∧ V' + 27 ≤ V + 27 * (y.2 - p) ∧ τ.1 34 1 = i32 T' ∧ T ≤ T' ∧ T' ≤ T + 100 * (y.2 - p) ∧ τ.1 43 7 = i32 y.2 ∧ FK σ τ V T vt.length ∧ fm (τ.1 35) y.1 g ∧ g + ln y.1 ≤ T'
  | .error e => e ≤ 40 ∧ ∃ τ, f = some (-1, τ) ∧ τ.1 43 8 = i32 e ∧ chK AK σ τ
def RnI (f : Option (Int32 × CS)) (vt : List Rq) (σ : CS) (p V T : Nat) (r : Except Nat (Tr × Tr × Nat)) : Prop := Rn0 f vt.length σ p V T r
def BK (L : Lw) (ents : List (Tr × Tr)) (tx : List Nat) (vt : List Rq) (σ : CS) (p V T : Nat) : Prop := vtOK L vt ∧ RK L ents tx σ T ∧ DK vt σ V T p ∧ p ≤ tx.length
def KT (L : Lw) (ents : List (Tr × Tr)) (tx : List Nat) (r : RT) (K : Nat) : Prop := ∀ d, 2 * K ≤ d → ∀ vt p V T σ, BK L ents tx vt σ p V T → 2 * (33 - p) ≤ K → RnT (f_Reader_readType d (i32 vt.length) σ) vt σ p V T (r vt p)
def KC (L : Lw) (ents : List (Tr × Tr)) (tx : List Nat) (r : RC) (K : Nat) : Prop := ∀ d, 2 * K ≤ d → ∀ vt rq p V T a σ, BK L ents tx vt σ p V T → rqOK L vt rq → tyK σ V T rq.1 rq.2 a → 2 * (33 - p) ≤ K → RnT (f_Reader_checkTerm d (i32 a) (i32 vt.length) σ) vt σ p V T (r vt rq p)
def KI (L : Lw) (ents : List (Tr × Tr)) (tx : List Nat) (r : RN) (K : Nat) : Prop := ∀ d, 2 * K ≤ d → ∀ vt p V T σ, BK L ents tx vt σ p V T → 2 * (33 - p) ≤ K + 1 → RnI (f_Reader_inferTerm d (i32 vt.length) σ) vt σ p V T (r vt p)
theorem rn_err {vt : List Rq} {σ : CS} {p V T e : Nat} {f : Option (Int32 × CS)} {σ1 : CS} (he : e ≤ 40) (hf : chK AK σ σ1) (h : f = some (-1, sI σ1 43 8 (i32 e))) : RnT f vt σ p V T (.error e) := ⟨he, _, h, sI_at _ _ _ _, cK_tr hf (cK_sI σ1 _ (by decide) (by omega) (by omega))⟩
/-- put together: the end of a part -/
theorem Join_T {vt : List Rq} {σ σ1 τ : CS} {V T V1 T1 p q : Nat} {t : Tr} {r : Int32} {f : Option (Int32 × CS)} (hf : FK σ σ1 V T vt.length) (hV : V ≤ V1) (hV2 : V1 + 27 ≤ V + 27 * (q - p)) (hT : T ≤ T1) (hTq : T1 + 50 ≤ T + 100 * (q - p)) (h7 : σ1.1 43 7 = i32 q) (hp : p ≤ 40) (e : f = some (r, τ)) (h : JoinO σ1 τ V1 T1 p vt.length t r) : RnT f vt σ p V T (jn t p q) := by
  obtain ⟨a1, a2, a3, a4, a5, T', a8, a9, a10, a11⟩ := h
  have g := FK_tr hf (FK_AS (n := vt.length) a1 a2 a3) hV hT (Nat.le_refl _)
  rcases a11 with ⟨x1, x2, x3, x4⟩ | ⟨x1, x2, x3⟩
  · rw [show jn t p q = .ok (t, q) from cif_pos x1 _ _]
    exact ⟨T1, τ, V1, T', by rw [e, x2], a5, hV, hV2, a8, by omega, by show T' ≤ T + 100 * (q - p); omega, by rw [a4]; exact h7, g, x3, by show T1 + ln t ≤ T'; omega⟩
  · rw [show jn t p q = .error p from cif_neg x1 _ _]
    exact ⟨hp, τ, by rw [e, x2], x3, g.2.1⟩
/-- a next byte taken -/
theorem next_F (σ : CS) (p V T n : Nat) : FK σ (sI σ 43 7 (i32 p)) V T n := FK_43 σ 7 (i32 p) V T n (by omega)
theorem c43_ne (σ : CS) (k : Nat) (x : Int32) {j k' : Nat} (h : j ≠ 43) : (sI σ 43 k x).1 j k' = σ.1 j k' := sI_ne _ _ (Or.inl h)
theorem BK_next {vt : List Rq} {σ : CS} {p V T : Nat} (h : BK L ents tx vt σ p V T) (hp : p < tx.length) : BK L ents tx vt (sI σ 43 7 (i32 (p + 1))) (p + 1) V T := by
  obtain ⟨hv, hs, hd, _⟩ := h
  have f7 := next_F σ (p + 1) V T vt.length
  have hd' := hd
  obtain ⟨d1, d2, d3, d4, d5, d6, d7, d8⟩ := hd
  exact ⟨hv, RK_go hs f7.1 f7.2.1 (Nat.le_refl T), DK_go hd' f7 (by rw [c43_ne _ _ _ (by decide)]; exact d1) (by rw [c43_ne _ _ _ (by decide)]; exact d2) (sI_at _ _ _ _) (Nat.le_refl _) (by omega) (Nat.le_refl _) (by omega), by omega⟩
theorem BK_go {vt : List Rq} {σ τ : CS} {p q V T V' T' : Nat} (h : BK L ents tx vt σ p V T) (hf : FK σ τ V T vt.length) (h1 : τ.1 34 1 = i32 T') (hV : τ.1 38 4 = i32 V') (h7 : τ.1 43 7 = i32 q) (hV1 : V ≤ V') (hV2 : V' ≤ 1 + 27 * q) (hT1 : T ≤ T') (hT2 : T' ≤ 350 + 100 * q) (hq : q ≤ tx.length) : BK L ents tx vt τ q V' T' := ⟨h.1, RK_go h.2.1 hf.1 hf.2.1 hT1, DK_go h.2.2.1 hf h1 hV h7 hV1 hV2 hT1 hT2, hq⟩
theorem BK_R {vt : List Rq} {σ : CS} {p V T : Nat} (hw : WL L ents tx) (h : BK L ents tx vt σ p V T) : RdP L (ctx vt) σ V T := RdP_of h.1 h.2.1 h.2.2.1 (by have := h.2.2.2; have := hw.2.2.2.1; omega)
theorem BK_fx {vt : List Rq} {σ : CS} {p V T : Nat} (hw : WL L ents tx) (h : BK L ents tx vt σ p V T) : ∀ k, k < L.1.length → fxK σ k = fxL L k := lwP_fx (W34 hw).1 h.2.1.1 (by have := h.2.2.2; have := hw.2.2.2.1; have := h.2.2.1.2.2.2.2.1; omega)
/-- a type node for a form -/
theorem k_typeNode {σ : CS} {V T q e : Nat} {A : Tr} {ρ : List Tr} (hV : σ.1 38 4 = i32 V) (h1 : 1 ≤ V) (hV2 : V < 3072) (hf : fm (σ.1 35) A q) (hq : q + ln A ≤ T) (hp : pr (fxK σ) A) (hr : rpK σ V T true (eL ρ) e) : f_Values_typeAt (i32 q) (i32 e) σ = some (i32 V, mkn σ V 10 (i32 q) (i32 e)) ∧ tyK (mkn σ V 10 (i32 q) (i32 e)) (V + 1) T A ρ V := by
  have cM := mkn_ch (A := AV) σ V 10 (i32 q) (i32 e) (fun _ h => h)
  have kM := mkn_kp σ V 10 (i32 q) (i32 e) T
  refine ⟨?_, h1, by omega, mkn_39 _ _ _ _ _, q, e, mkn_40 _ _ _ _ _, mkn_41 _ _ _ _ _, kK_fm kM hf hq, hq, by rw [cK_fx cM n36V]; exact hp, mk_rp _ _ _ hr⟩
  unfold f_Values_typeAt
  rw [obid, k_make _ _ _ hV h1 hV2]
/-- a name is brought in force for reading -/
theorem k_bind {vt : List Rq} {rq : Rq} {σ : CS} {V T p q : Nat} (hd : DK vt σ V T p) (hq : tyK σ V T rq.1 rq.2 q) (hn : vt.length < 10) (hV2 : V + 2 ≤ 1 + 27 * p) (hV3 : V + 2 ≤ 3072) : ∃ τ, f_Reader_bind (i32 q) (i32 vt.length) σ = some (i32 V, τ) ∧ rpK τ (V + 2) T false (nm vt.length) V ∧ FK σ τ V T vt.length ∧ DK (vt ++ [rq]) τ (V + 2) T p := by
  have hd' := hd
  obtain ⟨d1, d2, d3, d4, d5, d6, d7, d8⟩ := hd
  have hV' : (sI σ 42 vt.length (i32 q)).1 38 4 = i32 V := by rw [sI_ne _ _ (Or.inl (by decide))]; exact d2
  have k1 : kpK σ (sI σ 42 vt.length (i32 q)) V T := ⟨fun i _ => ⟨sI_ne _ _ (Or.inl (by decide)), sI_ne _ _ (Or.inl (by decide)), sI_ne _ _ (Or.inl (by decide))⟩, fun i _ => sI_ne _ _ (Or.inl (by decide))⟩
  have c1 : chK AK σ (sI σ 42 vt.length (i32 q)) := cK_sI σ _ (by decide) (by omega) (by omega)
  have cM := mkn_ch (A := AV) (sI σ 42 vt.length (i32 q)) V 1 (i32 vt.length) 0 (fun _ h => h)
  have kM := mkn_kp (sI σ 42 vt.length (i32 q)) V 1 (i32 vt.length) 0 T
  obtain ⟨e, s1, s2⟩ := d7 vt.length (Nat.le_refl _)
  have e45 : ∀ k, (mkn (sI σ 42 vt.length (i32 q)) V 1 (i32 vt.length) 0).1 45 k = σ.1 45 k := fun k => by rw [cM.2.1 45 (by decide)]; exact sI_ne _ _ (Or.inl (by decide))
  have cM2 := mkn_ch (A := AV) (mkn (sI σ 42 vt.length (i32 q)) V 1 (i32 vt.length) 0) (V + 1) 9 (i32 V) (i32 e) (fun _ h => h)
  have kM2 := mkn_kp (mkn (sI σ 42 vt.length (i32 q)) V 1 (i32 vt.length) 0) (V + 1) 9 (i32 V) (i32 e) T
  have hnm : rpK (mkn (sI σ 42 vt.length (i32 q)) V 1 (i32 vt.length) 0) (V + 1) T false (nm vt.length) V := ⟨d3, by omega, Or.inl ⟨by omega, by omega, mkn_39 _ _ _ _ _, by rw [show 48 + vt.length - 48 = vt.length by omega]; exact mkn_40 _ _ _ _ _⟩⟩
  have fx1 := cK_fx c1 n36K
  have s2' := mk_rp 1 (i32 vt.length) 0 (rK_kp k1 fx1 (Nat.le_refl _) (Nat.le_refl _) _ _ _ s2)
  have hgo : f_Reader_bind (i32 q) (i32 vt.length) σ = some (i32 V, sI (mkn (mkn (sI σ 42 vt.length (i32 q)) V 1 (i32 vt.length) 0) (V + 1) 9 (i32 V) (i32 e)) 45 (vt.length + 1) (i32 (V + 1))) := by
    unfold f_Reader_bind f_Values_newVariable B_Reader_bind_42 f_Values_extended
    rw [if_neg (show ¬ (i32 vt.length < 0) from by rw [show (0 : Int32) = i32 0 from rfl, z_lt (by omega) (by omega)]; omega), if_pos (show i32 vt.length < 10 from by rw [show (10 : Int32) = i32 10 from rfl, z_lt (by omega) (by omega)]; exact hn), if_pos (show ix (i32 vt.length) (lS 42) = true from c_ix (show vt.length < lS 42 from hn) (by omega)), z_nn (by omega), obid, k_make _ _ _ hV' d3 (by omega), Option.bind_some]
    dsimp only
    rw [if_neg (show ¬ (i32 vt.length < 0) from by rw [show (0 : Int32) = i32 0 from rfl, z_lt (by omega) (by omega)]; omega), if_neg (show ¬ ((10 : Int32) ≤ i32 vt.length) from by rw [show (10 : Int32) = i32 10 from rfl, z_le (by omega) (by omega)]; omega), if_pos (show ix (i32 vt.length) (lS 45) = true from c_ix (show vt.length < lS 45 by show vt.length < 11; omega) (by omega)), e45, s1, obid, k_make _ _ _ (mkn_V _ _ _ _ _) (by omega) (by omega), Option.bind_some]
    dsimp only
    rw [show i32 vt.length + 1 = i32 (vt.length + 1) from by rw [z1, z_add], if_pos (show ix (i32 (vt.length + 1)) (lS 45) = true from c_ix (show vt.length + 1 < lS 45 by show vt.length + 1 < 11; omega) (by omega)), z_nn (by omega)]
  have hVV : (mkn (mkn (sI σ 42 vt.length (i32 q)) V 1 (i32 vt.length) 0) (V + 1) 9 (i32 V) (i32 e)).1 38 4 = i32 (V + 2) := mkn_V _ _ _ _ _
  have hsc : rpK (mkn (mkn (sI σ 42 vt.length (i32 q)) V 1 (i32 vt.length) 0) (V + 1) 9 (i32 V) (i32 e)) (V + 2) T true (eL (idr (vt.length + 1))) (V + 1) := by
    rw [idr_succ, eL_snoc]
    exact ⟨by omega, by omega, mkn_39 _ _ _ _ _, by rw [dL_eL, idr_len]; exact hn, V, e, mkn_40 _ _ _ _ _, mkn_41 _ _ _ _ _, mk_rp _ _ _ hnm, mk_rp _ _ _ s2'⟩
  have hnm2 := mk_rp 9 (i32 V) (i32 e) hnm
  have cc : chK AK σ (mkn (mkn (sI σ 42 vt.length (i32 q)) V 1 (i32 vt.length) 0) (V + 1) 9 (i32 V) (i32 e)) := cK_tr c1 (cVK (cK_tr cM cM2))
  have kk : kpK σ (mkn (mkn (sI σ 42 vt.length (i32 q)) V 1 (i32 vt.length) 0) (V + 1) 9 (i32 V) (i32 e)) V T := kK_tr k1 (kK_tr kM kM2 (by omega) (Nat.le_refl _)) (Nat.le_refl _) (Nat.le_refl _)
  have o45 : ∀ k, (mkn (mkn (sI σ 42 vt.length (i32 q)) V 1 (i32 vt.length) 0) (V + 1) 9 (i32 V) (i32 e)).1 45 k = σ.1 45 k := fun k => by rw [cM2.2.1 45 (by decide)]; exact e45 k
  have o42 : ∀ k, (mkn (mkn (sI σ 42 vt.length (i32 q)) V 1 (i32 vt.length) 0) (V + 1) 9 (i32 V) (i32 e)).1 42 k = (sI σ 42 vt.length (i32 q)).1 42 k := fun k => by rw [cM2.2.1 42 (by decide), cM.2.1 42 (by decide)]
  have o34 : (mkn (mkn (sI σ 42 vt.length (i32 q)) V 1 (i32 vt.length) 0) (V + 1) 9 (i32 V) (i32 e)).1 34 1 = σ.1 34 1 := by rw [cM2.2.1 34 (by decide), cM.2.1 34 (by decide)]; exact sI_ne _ _ (Or.inl (by decide))
  have o43 : (mkn (mkn (sI σ 42 vt.length (i32 q)) V 1 (i32 vt.length) 0) (V + 1) 9 (i32 V) (i32 e)).1 43 7 = σ.1 43 7 := by rw [cM2.2.1 43 (by decide), cM.2.1 43 (by decide)]; exact sI_ne _ _ (Or.inl (by decide))
  generalize mkn (mkn (sI σ 42 vt.length (i32 q)) V 1 (i32 vt.length) 0) (V + 1) 9 (i32 V) (i32 e) = υ at hgo hVV hsc hnm2 cc kk o45 o42 o34 o43
  have k5 : kpK υ (sI υ 45 (vt.length + 1) (i32 (V + 1))) (V + 2) T := ⟨fun i _ => ⟨sI_ne _ _ (Or.inl (by decide)), sI_ne _ _ (Or.inl (by decide)), sI_ne _ _ (Or.inl (by decide))⟩, fun i _ => sI_ne _ _ (Or.inl (by decide))⟩
  have c5 : chK AK υ (sI υ 45 (vt.length + 1) (i32 (V + 1))) := cK_sI υ _ (by decide) (by omega) (by omega)
  have fx5 := cK_fx c5 n36K
  have fF : FK σ (sI υ 45 (vt.length + 1) (i32 (V + 1))) V T vt.length := ⟨kK_tr kk k5 (by omega) (Nat.le_refl _), cK_tr cc c5, fun k hk => by rw [sI_ne _ _ (Or.inl (by decide)), o42, sI_ne _ _ (Or.inr (by omega))], fun k hk => by rw [sI_ne _ _ (Or.inr (by omega)), o45]⟩
  refine ⟨_, hgo, rK_kp k5 fx5 (Nat.le_refl _) (Nat.le_refl _) _ _ _ hnm2, fF, by rw [sI_ne _ _ (Or.inl (by decide)), o34]; exact d1, by rw [sI_ne _ _ (Or.inl (by decide))]; exact hVV, by omega, hV2, d5, by rw [sI_ne _ _ (Or.inl (by decide)), o43]; exact d6, fun k hk => ?_, fun k r hk => ?_⟩
  · simp at hk
    by_cases hk2 : k = vt.length + 1
    · subst hk2
      exact ⟨V + 1, sI_at _ _ _ _, rK_kp k5 fx5 (Nat.le_refl _) (Nat.le_refl _) _ _ _ hsc⟩
    · obtain ⟨e', b1, b2⟩ := d7 k (by omega)
      exact ⟨e', by rw [fF.2.2.2 k (by omega)]; exact b1, rK_kp fF.1 (FK_fx fF) (by omega) (Nat.le_refl _) _ _ _ b2⟩
  · by_cases hk1 : k < vt.length
    · rw [List.getElem?_append_left hk1] at hk
      obtain ⟨q', b1, b2⟩ := d8 k r hk
      exact ⟨q', by rw [fF.2.2.1 k hk1]; exact b1, tyK_kp fF.1 (FK_fx fF) (by omega) (Nat.le_refl _) b2⟩
    · have := (List.getElem?_eq_some_iff.mp hk).1
      simp at this
      obtain rfl : k = vt.length := by omega
      simp at hk
      subst hk
      exact ⟨q, by rw [sI_ne _ _ (Or.inl (by decide)), o42, sI_at], tyK_kp fF.1 (FK_fx fF) (by omega) (Nat.le_refl _) hq⟩
end KRD

section TOP14
variable {L : Lw} {tx : List Nat}
/-- what the reading of declarations leaves -/
def LF (σ τ : MS) : Prop := ch (4 :: 5 :: 7 :: FM) (3 :: AR) σ τ ∧ (∀ i, i < 20 → τ.2.2 i = σ.2.2 i) ∧ (∀ i, i < 10 → τ.2.1 11 i = σ.2.1 11 i) ∧ ∀ q, q < 969 ∨ (1326 ≤ q ∧ q < 1734) → τ.2.1 1 q = σ.2.1 1 q
theorem LF_rf (σ : MS) : LF σ σ := ⟨ch_rf _ _ _, fun _ _ => rfl, fun _ _ => rfl, fun _ _ => rfl⟩
theorem LF_tr {σ τ υ : MS} (h : LF σ τ) (g : LF τ υ) : LF σ υ := ⟨ch_tr h.1 g.1, fun i hi => (g.2.1 i hi).trans (h.2.1 i hi), fun i hi => (g.2.2.1 i hi).trans (h.2.2.1 i hi), fun q hq => (g.2.2.2 q hq).trans (h.2.2.2 q hq)⟩
theorem LF_MF {σ τ : MS} (h : MF σ τ) : LF σ τ := ⟨ch_mo h.2 (fun k hk => List.mem_cons_of_mem _ (List.mem_cons_of_mem _ (List.mem_cons_of_mem _ hk))) (fun j hj => List.mem_cons_of_mem _ hj), h.1.1, fun i hi => h.1.2.1 i (by omega), fun q hq => h.1.2.2.1 q (by omega)⟩
theorem LF_F (σ : MS) {k : Nat} (x : Int32) (h : k ∈ 4 :: 5 :: 7 :: FM) : LF σ (setF σ k x) := ⟨ch_setF _ _ h, fun _ _ => rfl, fun _ _ => rfl, fun _ _ => rfl⟩
theorem LF_3 (σ : MS) (i : Nat) (x : Int32) : LF σ (setA σ 3 i x) := ⟨ch_setA _ _ (List.mem_cons_self ..), fun _ _ => rfl, fun _ _ => setA_ne _ _ (Or.inl (by decide)), fun _ _ => setA_ne _ _ (Or.inl (by decide))⟩
theorem LF_b (σ : MS) {i j n : Nat} (h1 : 969 ≤ j) (h2 : j + n ≤ 1326) : LF σ (brg σ 1 i 1 j n) := ⟨⟨fun _ _ => rfl, fun c hc => brg_ne _ _ _ _ _ _ (fun e => hc (by rw [e]; simp [AR]))⟩, fun _ _ => rfl, fun _ _ => by rw [brg_ne _ _ _ _ _ _ (by decide)], fun q hq => brg_out _ _ _ _ _ _ (by omega)⟩
def b3 (σ : MS) : Prop := ∀ k, k < 3 → bzb (σ.2.1 3 k) = true
def DI (L : Lw) (tx : List Nat) (σ : MS) (V E T p : Nat) : Prop := RS L [] tx σ ∧ Pos σ V E T p ∧ σ.1 7 = i32 969 ∧ b3 σ
theorem here_e {ents : List (Tr × Tr)} {σ : MS} {p : Nat} (hs : RS L ents tx σ) (h56 : σ.1 56 = i32 p) (hl : tx.length ≤ 32) (hp : p < 100) (hb : ∀ x ∈ tx, x < 256) : ∃ x, f_here σ = some (x, σ) ∧ ∀ c, c < 256 → (x = i32 c ↔ byt tx p = c) := by
  by_cases h : p < tx.length
  · refine ⟨_, m_here1 hs.1 h56 hl h, fun c hc => ?_⟩
    rw [hs.2.1 p h]
    have hlt : byt tx p < 256 := by
      unfold byt
      rw [List.getD_eq_getElem?_getD, List.getElem?_eq_getElem h]
      exact hb _ (List.getElem_mem h)
    rw [z_eq (by omega) (by omega)]
  · refine ⟨_, m_here0 hs.1 h56 hl (by omega) hp, fun c hc => ⟨fun e => absurd e.symm (i_ne9 (by omega)), fun e => ?_⟩⟩
    have : byt tx p = 300 := by
      unfold byt
      rw [List.getD_eq_getElem?_getD, List.getElem?_eq_none (by omega)]; rfl
    omega
theorem RS_969 {ents : List (Tr × Tr)} {σ : MS} (h : RS L ents tx σ) (h7 : σ.1 7 = i32 969) : (∀ (k : Nat) (I : Tr), L.1[k]? = some (some I) → fm (σ.2.1 1) I (969 + 51 * k)) ∧ (∀ (k : Nat) (T : Tr), L.2[k]? = some T → fm (σ.2.1 1) T (969 + 51 * (3 + k))) := by
  obtain ⟨_, _, _, _, ⟨la, g1, g2, g3, g4⟩, _⟩ := h
  rw [g1, z_eq (by omega) (by omega)] at h7
  subst h7
  exact ⟨g3, g4⟩
theorem RS_new {M : Lw} {σ τ : MS} (h : RS L [] tx σ) (e3 : τ.1 3 = σ.1 3) (e2 : τ.2.1 2 = σ.2.1 2) (e4 : τ.1 4 = i32 M.1.length) (e5 : τ.1 5 = i32 M.2.length) (e7 : τ.1 7 = i32 969) (e9 : τ.1 9 = σ.1 9) (fI : ∀ (k : Nat) (I : Tr), M.1[k]? = some (some I) → fm (τ.2.1 1) I (969 + 51 * k)) (fT : ∀ (k : Nat) (T : Tr), M.2[k]? = some T → fm (τ.2.1 1) T (969 + 51 * (3 + k))) (fx : ∀ k, k < M.1.length → fxM τ k = fxL M k) (el : ∀ i, i < 20 → τ.2.2 i = σ.2.2 i) (e11 : ∀ i, i < 10 → τ.2.1 11 i = σ.2.1 11 i) : RS M [] tx τ := by
  obtain ⟨h1, h2, h3, h4, _, h9, h10, h11, h12, h13⟩ := h
  exact ⟨by rw [e3]; exact h1, by rw [e2]; exact h2, e4, e5, ⟨969, e7, Nat.le_refl _, fI, fT⟩, fx, by rw [e9]; exact h10, fun e x hx => by simp at hx, fun k hk => by rw [el k hk]; exact h12 k hk, fun k hk => by rw [e11 k hk]; exact h13 k hk⟩
def DO (tx : List Nat) (σ : MS) (f : Option (Int32 × MS)) (r : Except Nat (Lw × Nat)) : Prop := ∃ τ, f = some (0, τ) ∧ LF σ τ ∧ b3 τ ∧ match r with
  | .ok y => ∃ V E T, DI y.1 tx τ V E T y.2
  | .error e => e ≤ 40 ∧ τ.1 57 = i32 e
theorem nf_go (σ : MS) {x : Int32} (h4 : ¬ (σ.1 4 = 3)) (hi : ix ((setF σ 56 ((σ.1 56) + 1)).1 4) (aln 3) = true) (hh : f_here (setA (setF σ 56 ((σ.1 56) + 1)) 3 (((setF σ 56 ((σ.1 56) + 1)).1 4) : Int32).toNatClampNeg 0) = some (x, setA (setF σ 56 ((σ.1 56) + 1)) 3 (((setF σ 56 ((σ.1 56) + 1)).1 4) : Int32).toNatClampNeg 0)) : f_nextFamily σ = (if x = 59 then B_nextFamily_120 (setA (setF σ 56 ((σ.1 56) + 1)) 3 (((setF σ 56 ((σ.1 56) + 1)).1 4) : Int32).toNatClampNeg 0) else (f_readsWhole (setF (setF (setA (setF σ 56 ((σ.1 56) + 1)) 3 (((setF σ 56 ((σ.1 56) + 1)).1 4) : Int32).toNatClampNeg 0) 45 1) 47 0)).bind fun q2 => (if 0 ≤ (q2.2.1 57) then (B_nextFamily_66 B_nextFamily_120) (q2.2.1 54) 0 q2.2 else (B_nextFamily_66 B_nextFamily_120) (q2.2.1 54) (q2.2.1 53) q2.2)) := by
  unfold f_nextFamily
  rw [if_neg h4, if_pos hi, hh, Option.bind_some]
  dsimp only
  rw [wt_eq, bnd2]
theorem b3_A {σ : MS} (h : b3 σ) (i : Nat) {x : Int32} (hx : bzb x = true) : b3 (setA σ 3 i x) := fun k hk => by
  by_cases e : k = i
  · rw [e, setA_at]; exact hx
  · rw [setA_ne _ _ (Or.inr e)]; exact h k hk
theorem b3_kp {σ τ : MS} {V E T : Nat} (h : b3 σ) (k : kp σ τ V E T) : b3 τ := fun i hi => by rw [k.2.2.2]; exact h i hi
theorem m_nextFamily (hL : lwOK L) (hl : tx.length ≤ 32) (hbt : ∀ x ∈ tx, x < 256) {σ : MS} {V E T p : Nat} (hd : DI L tx σ V E T p) (hp : p < tx.length) (h102 : byt tx p = 102) : DO tx σ (f_nextFamily σ) (spD tx p L) := by
  obtain ⟨hs, hP, h7, hb3⟩ := hd
  have l1 := hL.1
  unfold spD
  rw [if_pos h102]
  by_cases h3 : L.1.length = 3
  · rw [if_pos h3]
    unfold f_nextFamily
    rw [hs.2.2.1, if_pos (show i32 L.1.length = 3 by rw [h3]; rfl), m_fails _ hP.2.2.2.2.1, Option.bind_some, hP.2.2.2.1]
    exact ⟨_, rfl, LF_F σ _ (by simp [FM]), hb3, by omega, setF_eq _ _ _⟩
  · rw [if_neg h3]
    have hw : WL L [] tx := ⟨hL, ents_nil L, Nat.zero_le _, hl, hbt⟩
    have c4 : (setF σ 56 (i32 (p + 1))).1 4 = i32 L.1.length := by rw [setF_ne _ _ (by decide)]; exact hs.2.2.1
    have e1 : σ.1 56 + 1 = i32 (p + 1) := by rw [hP.2.2.2.1, z1, z_add]
    have hs1 : RS L [] tx (setA (setF σ 56 (i32 (p + 1))) 3 L.1.length 0) := by
      obtain ⟨f1, f2⟩ := RS_969 hs h7
      have o : ∀ k, k ≠ 56 → (setA (setF σ 56 (i32 (p + 1))) 3 L.1.length 0).1 k = σ.1 k := fun k hk => setF_ne _ _ hk
      have or : ∀ c, c ≠ 3 → (setA (setF σ 56 (i32 (p + 1))) 3 L.1.length 0).2.1 c = σ.2.1 c := fun c hc => by funext i; exact setA_ne _ _ (Or.inl hc)
      refine RS_new hs (o 3 (by decide)) (or 2 (by decide)) (by rw [o 4 (by decide)]; exact hs.2.2.1) (by rw [o 5 (by decide)]; exact hs.2.2.2.1) (by rw [o 7 (by decide)]; exact h7) (o 9 (by decide)) (by rw [or 1 (by decide)]; exact f1) (by rw [or 1 (by decide)]; exact f2) (fun k hk => ?_) (fun _ _ => rfl) (fun i _ => by rw [or 11 (by decide)])
      rw [← hs.2.2.2.2.2.1 k hk]
      unfold fxM
      rw [setA_ne _ _ (Or.inr (by omega))]
      rfl
    have hP1 : Pos (setA (setF σ 56 (i32 (p + 1))) 3 L.1.length 0) V E T (p + 1) := by
      obtain ⟨a1, a2, a3, a4, a5, a6, a7, a8, a9, a10, a11⟩ := hP
      exact ⟨a1, a2, a3, setF_eq σ 56 (i32 (p + 1)), a5, by omega, by omega, a8, by omega, a10, a11⟩
    have hF1 : LF σ (setA (setF σ 56 (i32 (p + 1))) 3 L.1.length 0) := LF_tr (LF_F σ _ (by simp [FM])) (LF_3 _ _ _)
    have hb1 : b3 (setA (setF σ 56 (i32 (p + 1))) 3 L.1.length 0) := b3_A (σ := setF σ 56 (i32 (p + 1))) hb3 _ rfl
    have h31 : (setA (setF σ 56 (i32 (p + 1))) 3 L.1.length 0).2.1 3 L.1.length = 0 := setA_at _ _ _ _
    have h71 : (setA (setF σ 56 (i32 (p + 1))) 3 L.1.length 0).1 7 = i32 969 := by show (setF σ 56 (i32 (p + 1))).1 7 = _; rw [setF_ne _ _ (by decide)]; exact h7
    obtain ⟨x, hh, hx⟩ := here_e hs1 hP1.2.2.2.1 hl (by omega) hbt
    have go := nf_go σ (x := x) (by rw [hs.2.2.1]; exact c_eq (b := 3) h3 (by omega) (by omega)) (by rw [e1, c4]; exact c_ix (show L.1.length < 3 by omega) (by omega)) (by rw [e1, c4, z_nn (by omega)]; exact hh)
    rw [e1, c4, z_nn (by omega)] at go
    rw [go]
    generalize setA (setF σ 56 (i32 (p + 1))) 3 L.1.length 0 = σ1 at hs1 hP1 hF1 hb1 h31 h71 hh
    by_cases h59 : byt tx (p + 1) = 59
    · rw [if_pos h59, if_pos (show x = 59 from (hx 59 (by omega)).mpr h59)]
      refine ⟨setF σ1 4 (σ1.1 4 + 1), rfl, LF_tr hF1 (LF_F _ _ (by simp)), hb1, V, E, T, ?_, ?_, ?_, hb1⟩
      · obtain ⟨f1, f2⟩ := RS_969 hs1 h71
        have o : ∀ k, k ≠ 4 → (setF σ1 4 (σ1.1 4 + 1)).1 k = σ1.1 k := fun k hk => setF_ne _ _ hk
        refine RS_new (M := (L.1 ++ [none], L.2)) hs1 (o 3 (by decide)) rfl ?_ (by rw [o 5 (by decide)]; exact hs1.2.2.2.1) (by rw [o 7 (by decide)]; exact h71) (o 9 (by decide)) (fun k I hI => ?_) f2 (fun k hk => ?_) (fun _ _ => rfl) (fun _ _ => rfl)
        · rw [setF_eq, hs1.2.2.1, z1, z_add]
          show _ = i32 (L.1 ++ [none]).length
          rw [List.length_append]; rfl
        · have hI' : (L.1 ++ [none])[k]? = some (some I) := hI
          by_cases hk : k < L.1.length
          · rw [List.getElem?_append_left hk] at hI'
            exact f1 k I hI'
          · have hlt := (List.getElem?_eq_some_iff.mp hI').1
            rw [List.length_append, List.length_singleton] at hlt
            obtain rfl : k = L.1.length := by omega
            rw [List.getElem?_append_right (Nat.le_refl _), Nat.sub_self] at hI'
            simp at hI'
        · have hk' : k < (L.1 ++ [none]).length := hk
          rw [List.length_append, List.length_singleton] at hk'
          show fxM σ1 k = ((L.1 ++ [none])[k]?).join.isSome
          by_cases hkk : k < L.1.length
          · rw [List.getElem?_append_left hkk]
            exact hs1.2.2.2.2.2.1 k hkk
          · obtain rfl : k = L.1.length := by omega
            rw [List.getElem?_append_right (Nat.le_refl _), Nat.sub_self]
            unfold fxM
            rw [h31]; rfl
      · obtain ⟨a1, a2, a3, a4, a5, a6⟩ := hP1
        exact ⟨a1, a2, a3, a4, a5, a6⟩
      · show (setF σ1 4 _).1 7 = _
        rw [setF_ne _ _ (by decide)]; exact h71
    · rw [if_neg h59, if_neg (show ¬ (x = 59) from fun e => h59 ((hx 59 (by omega)).mp e))]
      have w := m_wholeType hw hs1 hP1 (by omega)
      have oT := (okRD (tx := tx) hL (ents_nil L) (Nat.zero_le _) 70).1
      cases hr : (RD L [] tx 70).1 [] (p + 1) with
      | error e =>
        rw [hr] at w
        obtain ⟨he, y, τ, t1, t2, t3⟩ := w
        rw [t1, Option.bind_some]
        dsimp only
        unfold B_nextFamily_66 B_nextFamily_87 B_nextFamily_120
        rw [t2, if_pos (i_nn (by omega)), if_pos (i_nn (by omega)), if_pos (i_nn (by omega))]
        have m1 := LF_MF (MF_L t3 hP1.2.2.2.2.2.2.2.2.2.1 hP1.2.2.2.2.2.2.2.2.2.2 hP1.2.2.2.2.2.2.2.1)
        exact ⟨_, rfl, LF_tr hF1 (LF_tr m1 (LF_F _ _ (by simp))), b3_kp hb1 t3.1, he, t2⟩
      | ok a =>
        obtain ⟨a1, a2, a3, a4⟩ := oT _ _ _ (vtOK_nil L) hr
        rw [hr] at w
        obtain ⟨y, g, τ, V', E', T', t1, t2, t3, t4, t5, t6, t7, t8, t9, t10, t11, t12⟩ := w
        rw [t1, Option.bind_some]
        dsimp only
        have hT := Pos_T t3 (by omega)
        have m1 := LF_MF (MF_L t7 hP1.2.2.2.2.2.2.2.2.2.1 hP1.2.2.2.2.2.2.2.2.2.2 hP1.2.2.2.2.2.2.2.1)
        have hb2 := b3_kp hb1 t7.1
        have p1 : pr (fxM τ) a.1 := WT_pr ⟨hL.1, hL.2.1⟩ t2.2.2.2.2.2.1 _ _ a1
        have h72 : τ.1 7 = i32 969 := by rw [t7.2.1 7 (by decide)]; exact h71
        have hlo := lo_get t12 t8 (by unfold ln at t10; omega)
        have hla : ln a.1 ≤ 50 := a2.1
        unfold B_nextFamily_66 B_nextFamily_87 B_nextFamily_120
        rw [t3.2.2.2.2.1, if_neg neg9_lt, if_neg neg9_lt, t8, m_isData p1 t9 (by omega), Option.bind_some]
        dsimp only
        show DO tx σ _ (if 80 ∈ enc a.1 then .error (p + 1) else .ok ((L.1 ++ [some a.1], L.2), a.2))
        by_cases h80 : 80 ∈ enc a.1
        · rw [if_pos h80, if_pos h80, if_pos (show i32 0 = 0 from rfl), m_fails _ t3.2.2.2.2.1, Option.bind_some]
          dsimp only
          rw [setF_eq, t11, if_pos (i_nn (by omega))]
          refine ⟨_, rfl, LF_tr hF1 (LF_tr m1 (LF_tr (LF_F _ _ (by simp [FM])) (LF_F _ _ (by simp)))), hb2, by omega, ?_⟩
          rw [setF_ne _ _ (by decide), setF_eq]
        · rw [if_neg h80, if_neg h80, if_neg (show ¬ (i32 1 = 0) from by decide), t3.2.2.2.2.1, if_neg neg9_lt, t2.2.2.1, show (969 : Int32) + 51 * i32 L.1.length = i32 (969 + 51 * L.1.length) by simp only [z969, z51, z_mul, z_add], m_toSlot p1 t9 (by omega) (by omega) (Or.inl (by omega)), Option.bind_some]
          dsimp only
          have o1 : ∀ k, k < ln a.1 → (brg τ 1 g 1 (969 + 51 * L.1.length) (ln a.1)).2.1 1 (969 + 51 * L.1.length + k) = τ.2.1 1 (g + k) := fun k hk => brg_in _ _ _ _ _ _ _ hk
          have o2 : ∀ q, q < 969 + 51 * L.1.length ∨ 969 + 51 * L.1.length + ln a.1 ≤ q → (brg τ 1 g 1 (969 + 51 * L.1.length) (ln a.1)).2.1 1 q = τ.2.1 1 q := fun q hq => brg_out _ _ _ _ _ _ hq
          have oo : ∀ c, c ≠ 1 → (brg τ 1 g 1 (969 + 51 * L.1.length) (ln a.1)).2.1 c = τ.2.1 c := fun c hc => brg_ne _ _ _ _ _ _ hc
          have of : (brg τ 1 g 1 (969 + 51 * L.1.length) (ln a.1)).1 = τ.1 := rfl
          have ol : (brg τ 1 g 1 (969 + 51 * L.1.length) (ln a.1)).2.2 = τ.2.2 := rfl
          have oF := LF_b τ (i := g) (j := 969 + 51 * L.1.length) (n := ln a.1) (by omega) (by omega)
          generalize brg τ 1 g 1 (969 + 51 * L.1.length) (ln a.1) = υ at o1 o2 oo of ol oF
          rw [of, t2.2.2.1, if_pos (c_ix (show L.1.length < aln 3 from Nat.lt_of_lt_of_le (show L.1.length < 3 by omega) (Nat.le_refl _)) (by omega)), z_nn (by omega)]
          have hb3' : b3 υ := fun k hk => by rw [oo 3 (by decide)]; exact hb2 k hk
          have hb4 := b3_A hb3' L.1.length (x := 1) rfl
          have of2 : (setA υ 3 L.1.length 1).1 = τ.1 := of
          rw [of2]
          have w3 : ∀ k, (setA υ 3 L.1.length 1).2.1 3 k = if k = L.1.length then 1 else τ.2.1 3 k := fun k => by
            by_cases hk : k = L.1.length
            · rw [if_pos hk, hk, setA_at]
            · rw [if_neg hk, setA_ne _ _ (Or.inr hk), oo 3 (by decide)]
          have wr : ∀ c, c ≠ 3 → (setA υ 3 L.1.length 1).2.1 c = υ.2.1 c := fun c hc => by funext i; exact setA_ne _ _ (Or.inl hc)
          have wl : (setA υ 3 L.1.length 1).2.2 = τ.2.2 := ol
          have wF := LF_tr oF (LF_3 υ L.1.length 1)
          generalize setA υ 3 L.1.length 1 = ω at hb4 of2 w3 wr wl wF
          obtain ⟨f1, f2⟩ := RS_969 t2 h72
          have o : ∀ k, k ≠ 4 → (setF ω 4 (τ.1 4 + 1)).1 k = τ.1 k := fun k hk => by rw [setF_ne _ _ hk, of2]
          refine ⟨setF ω 4 (τ.1 4 + 1), rfl, LF_tr hF1 (LF_tr m1 (LF_tr wF (LF_F _ _ (by simp)))), hb4, V', E', T', ?_, ?_, ?_, hb4⟩
          · refine RS_new (M := (L.1 ++ [some a.1], L.2)) t2 (o 3 (by decide)) ((wr 2 (by decide)).trans (oo 2 (by decide))) ?_ (by rw [o 5 (by decide)]; exact t2.2.2.2.1) (by rw [o 7 (by decide)]; exact h72) (o 9 (by decide)) (fun k I hI => ?_) (fun k U hU => ?_) (fun k hk => ?_) (fun i _ => by show ω.2.2 i = _; rw [wl]) (fun i _ => by show ω.2.1 11 i = _; rw [wr 11 (by decide), oo 11 (by decide)])
            · rw [setF_eq, t2.2.2.1, z1, z_add]
              show _ = i32 (L.1 ++ [some a.1]).length
              rw [List.length_append]; rfl
            · have hI' : (L.1 ++ [some a.1])[k]? = some (some I) := hI
              show fm (ω.2.1 1) _ _
              rw [wr 1 (by decide)]
              by_cases hk : k < L.1.length
              · rw [List.getElem?_append_left hk] at hI'
                have : ln I ≤ 50 := (hL.2.2.1 k I hI').2.2.1
                exact fm_sh (fun i hi => o2 _ (by omega)) (f1 k I hI')
              · have hlt := (List.getElem?_eq_some_iff.mp hI').1
                rw [List.length_append, List.length_singleton] at hlt
                obtain rfl : k = L.1.length := by omega
                rw [List.getElem?_append_right (Nat.le_refl _), Nat.sub_self] at hI'
                have : a.1 = I := by simpa using hI'
                rw [← this]
                exact fm_sh o1 t9
            · show fm (ω.2.1 1) _ _
              rw [wr 1 (by decide)]
              have hU' : L.2[k]? = some U := hU
              have : ln U ≤ 50 := (hL.2.2.2 k U hU').2.1
              exact fm_sh (fun i hi => o2 _ (by omega)) (f2 k U hU')
            · have hk' : k < (L.1 ++ [some a.1]).length := hk
              rw [List.length_append, List.length_singleton] at hk'
              show fxM ω k = ((L.1 ++ [some a.1])[k]?).join.isSome
              by_cases hkk : k < L.1.length
              · rw [List.getElem?_append_left hkk]
                have := t2.2.2.2.2.2.1 k hkk
                unfold fxM at this ⊢
                rw [w3, if_neg (by omega)]
                exact this
              · obtain rfl : k = L.1.length := by omega
                rw [List.getElem?_append_right (Nat.le_refl _), Nat.sub_self]
                unfold fxM
                rw [w3, if_pos rfl]; rfl
          · obtain ⟨a1, a2, a3, a4, a5, a6⟩ := t3
            exact ⟨by rw [o 1 (by decide)]; exact a1, by rw [o 19 (by decide)]; exact a2, by rw [o 21 (by decide)]; exact a3, by rw [o 56 (by decide)]; exact a4, by rw [o 57 (by decide)]; exact a5, a6⟩
          · rw [o 7 (by decide)]; exact h72
end TOP14

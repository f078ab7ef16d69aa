section START
/-- the class's first state -/
def kz : CS := (js89.1, js89.2.1, fun _ => 0, fun _ => 0, 0)
theorem srf_14 {i : Nat} (h : 14 ≤ i) (j : Nat) : srf j i = 0 := by
  unfold srf
  split <;> first | rfl | omega
theorem js_kinds : ndC js89 = 49 ∧ (∀ j, j < 49 → js89.2.2.1 j = kS j) ∧ (∀ j, j < 49 → js89.2.2.2.1 j = lS j ∨ kS j < 11) ∧ ∀ j, j < 49 → ∀ i, i < 14 → srf j i ≠ 0 → js89.2.1 j i = some (srf j i) := by decide +kernel
theorem kz_rfv {j : Nat} (hj : j < 49) (i : Nat) : rfv kz j i = js89.2.1 j i := by
  unfold rfv
  by_cases h : srf j i = 0
  · rw [if_pos h]; rfl
  · rw [if_neg h]
    have hi : i < 14 := by
      by_cases g : i < 14
      · exact g
      · exact absurd (srf_14 (by omega) j) h
    exact (js_kinds.2.2.2 j hj i hi h).symm
theorem wd_wc (cy : Nat → ClassId) {a b : Nat → Nat} (h : ∀ j, j < 49 → a j = b j) : wd cy a js89 = wc cy b kz := by
  unfold wd wc
  rw [js_kinds.1]
  show (List.range 49).map _ = (List.range 49).map _
  apply List.map_congr_left
  intro j hj
  have hj := List.mem_range.mp hj
  rw [h j hj]
  congr 1
  have er : ∀ i, (js89.2.1 j i).map a = (rfv kz j i).map b := fun i => by
    rw [kz_rfv hj]
    cases e : js89.2.1 j i with
    | none => rfl
    | some q => rw [Option.map_some, Option.map_some, h q (pb_js89 j i q e).1]
  have ek : knd kz j = js89.2.2.1 j := by
    unfold knd
    rw [if_pos hj, js_kinds.2.1 j hj]
  have ef : ∀ ci, fvD a js89 j ci = fvC b kz j ci := fun ci => by
    funext k
    unfold fvD fvC
    rw [er]
    rfl
  unfold cellD cellC
  rw [ek]
  by_cases hk : js89.2.2.1 j < 11
  · rw [if_pos hk, if_pos hk, ef]
  · have el : lnC kz j = js89.2.2.2.1 j := by
      unfold lnC
      rw [if_pos hj]
      rcases js_kinds.2.2.1 j hj with g | g
      · exact g.symm
      · rw [js_kinds.2.1 j hj] at hk
        exact absurd g hk
    rw [if_neg hk, if_neg hk, el]
    have e1 : kz.1 j = js89.1 j := rfl
    rw [e1, show (fun i => (js89.2.1 j i).map a) = (fun i => (rfv kz j i).map b) from funext er]
def s0 : Sta := ([], ([], []), [], [], [], (none, none))
theorem SOK_0 : SOK s0 := ⟨Nat.zero_le _, fun x hx => absurd hx List.not_mem_nil, lwOK_nil, ⟨Nat.zero_le _, fun x hx => absurd hx List.not_mem_nil⟩, ⟨Nat.zero_le _, fun x hx => absurd hx List.not_mem_nil⟩, ⟨Nat.zero_le _, fun x hx => absurd hx List.not_mem_nil⟩, fun l hl => (by cases hl), fun l hl => (by cases hl)⟩
theorem kz_facts : kz.1 0 1 = 0 ∧ kz.1 2 2 = 0 ∧ kz.1 2 3 = 0 ∧ kz.1 5 1 = 0 ∧ kz.1 25 2 = 0 ∧ kz.1 7 1 = 0 ∧ kz.1 7 2 = 0 ∧ kz.1 29 0 = 0 ∧ kz.1 29 1 = 0 ∧ kz.1 38 4 = 1 ∧ rfv kz 0 2 = some 2 ∧ (∀ k, k < 6 → rfv kz 6 k = none) ∧ (∀ i, i < 8 → ∀ k, k < 6 → rfv kz (9 + 2 * i + 1) k = none) ∧ ∀ i, i < 2 → ∀ k, k < 6 → rfv kz (30 + 2 * i + 1) k = none := by decide +kernel
theorem kz_shF {a : Nat} (ha : shC a) (k5 : kS a = 5) (k15 : kS (a + 1) = 15) (l6 : lS (a + 1) = 6) (h : ∀ k, k < 6 → rfv kz (a + 1) k = none) : shF kz a := by
  have h49 := ha.2
  refine ⟨okS kz a (by omega) k5, a + 1, shC_r ha kz, h49, okS kz (a + 1) h49 k15, ?_, fun k hk => ?_⟩
  · unfold lnC
    rw [if_pos h49, l6]
  · rw [h k hk]; rfl
theorem KA_0 : KA kz s0 ∧ KV kz := by
  obtain ⟨f1, f2, f3, f4, f5, f6, f7, f8, f9, f10, f11, f12, f13, f14⟩ := kz_facts
  have k8 : ∀ i, i < 8 → kS (9 + 2 * i) = 5 ∧ kS (9 + 2 * i + 1) = 15 ∧ lS (9 + 2 * i + 1) = 6 := by decide
  have k2 : ∀ i, i < 2 → kS (30 + 2 * i) = 5 ∧ kS (30 + 2 * i + 1) = 15 ∧ lS (30 + 2 * i + 1) = 6 := by decide
  have hF5 := kz_shF shC_5 rfl rfl rfl f12
  refine ⟨⟨⟨f1, fun k hk => absurd hk (Nat.not_lt_zero _)⟩, ⟨2, f11, ⟨okS kz 2 (by decide) rfl, f2, f3, 3, 4, rfl, okS kz 3 (by decide) rfl, rfl, rfl, okS kz 4 (by decide) rfl, rfl, fun k hk => ?_, fun k I hk => ?_, fun k T hk => ?_⟩, Or.inl rfl⟩, shK_mk shD_5 hF5 f4 (Nat.zero_le _) (fun e x hx => ?_), ⟨f5, fun i x hx => ?_⟩, ⟨0, by decide, f6, f7, fun i l hl => ?_⟩, ⟨f8, f9⟩, hF5, fun i hi => kz_shF (shC_9 i hi) (k8 i hi).1 (k8 i hi).2.1 (k8 i hi).2.2 (f13 i hi), fun i hi => kz_shF (shC_30 i hi) (k2 i hi).1 (k2 i hi).2.1 (k2 i hi).2.2 (f14 i hi)⟩, ?_⟩
  · have hk' : ([] : List (Option Tr))[k]? = some none := hk
    simp at hk'
  · have hk' : ([] : List (Option Tr))[k]? = some (some I) := hk
    simp at hk'
  · have hk' : ([] : List Tr)[k]? = some T := hk
    simp at hk'
  · have hk' : ([] : Ens)[e]? = some x := hx
    simp at hk'
  · have hk' : ([] : List (Nat × (Tr × Tr)))[i]? = some x := hx
    simp at hk'
  · have hk' : ([] : List Ens)[i]? = some l := hl
    simp at hk'
  · unfold KV
    rw [f10]
    decide
theorem mu0_facts : mu0.1 3 = 0 ∧ mu0.1 4 = 0 ∧ mu0.1 5 = 0 ∧ mu0.1 7 = 0 ∧ mu0.1 8 = 0 ∧ mu0.1 10 = 0 ∧ mu0.1 15 = 0 ∧ (∀ k, k < 3 → bzb (mu0.2.1 3 k) = true) ∧ (∀ k, k < 20 → mu0.2.2 k = pk 0 k 0 0) ∧ (∀ k, k < 10 → mu0.2.1 11 k = i32 k) ∧ mu0.2.1 9 0 = -9 ∧ mu0.2.1 9 1 = -9 := by decide +kernel
theorem MA_0 : MA mu0 s0 := by
  obtain ⟨f1, f2, f3, f4, f5, f6, f7, f8, f9, f10, f11, f12⟩ := mu0_facts
  refine ⟨⟨f1, fun k hk => absurd hk (Nat.not_lt_zero _)⟩, ⟨f2, f3, f4, fun k I hk => ?_, fun k T hk => ?_, fun k hk => absurd hk (Nat.not_lt_zero _), f8⟩, ⟨f5, fun e x hx => ?_⟩, ⟨f9, f10⟩, ⟨f6, fun i x hx => ?_⟩, ⟨f7, trivial⟩, ⟨f11, f12⟩⟩
  · have hk' : ([] : List (Option Tr))[k]? = some (some I) := hk
    simp at hk'
  · have hk' : ([] : List Tr)[k]? = some T := hk
    simp at hk'
  · have hk' : ([] : Ens)[e]? = some x := hx
    simp at hk'
  · have hk' : ([] : List (Nat × (Tr × Tr)))[i]? = some x := hx
    simp at hk'
end START

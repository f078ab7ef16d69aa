section KTOP15
/-- a type that was read is taken by the empty row -/
theorem k_typeAt0 {σ : CS} {V T g : Nat} {A : Tr} (hV : σ.1 38 4 = i32 V) (h1 : 1 ≤ V) (h2 : V < 3072) (hf : fm (σ.1 35) A g) (hg : g + ln A ≤ T) (hp : pr (fxK σ) A) : f_Values_typeAt (i32 g) 0 σ = some (i32 V, mkn σ V 10 (i32 g) 0) ∧ tyK (mkn σ V 10 (i32 g) 0) (V + 1) T A [] V := by
  have hk := mkn_kp σ V 10 (i32 g) 0 T
  have hc := mkn_ch (A := AV) σ V 10 (i32 g) 0 (fun _ h => h)
  refine ⟨?_, h1, Nat.lt_succ_self V, ?_, g, 0, mkn_40 _ _ _ _ _, ?_, kK_fm hk hf hg, hg, ?_, rfl⟩
  · unfold f_Values_typeAt
    rw [k_make 10 (i32 g) 0 hV h1 h2, Option.bind_some]
  · rw [mkn_39]; rfl
  · rw [mkn_41]; rfl
  · rw [cK_fx hc n36V]; exact hp
end KTOP15

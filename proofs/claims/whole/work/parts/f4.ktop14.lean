section KTOP14
/-- the end of the text is wanted -/
theorem k_readEnd {σ : CS} {n p : Nat} (h5 : σ.1 43 5 = i32 n) (h7 : σ.1 43 7 = i32 p) (hn : n ≤ 40) (hp : p ≤ n) : f_Reader_readEnd σ = some (if p = n then (1, σ) else (0, sI σ 43 8 (i32 p))) := by
  unfold f_Reader_readEnd B_Reader_readEnd_22 B_Reader_readEnd_27 f_Reader_fail
  rw [h5, h7]
  by_cases h : p = n
  · rw [if_pos (show i32 n ≤ i32 p by rw [z_le (by omega) (by omega)]; omega), if_pos h]
    rfl
  · rw [if_neg (show ¬ (i32 n ≤ i32 p) by rw [z_le (by omega) (by omega)]; omega), if_neg h]
    rfl
end KTOP14

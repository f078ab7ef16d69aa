section KTOP13
theorem k_answer {σ : CS} {t : Tr} {p T : Nat} {k : Int32} (hT : σ.1 34 1 = i32 T) (hT2 : T ≤ 3600) (hp : pr (fxK σ) t) (hf : fm (σ.1 35) t p) (hl : p + ln t ≤ T) (hk : -1 ≤ k) : f_Signs_answer (i32 p) k σ = some (soM t k, σ) := by
  unfold f_Signs_answer B_Signs_answer_34 B_Signs_answer_36 soM sgA
  rw [k_behind hT hT2 hp hf hl, Option.bind_some]
  dsimp only
  rw [z_sub (by omega), show p + ln t - p = ln t by omega]
  by_cases hk1 : k = -1
  · rw [if_pos hk1, if_neg (show ¬ ((0 : Int32) ≤ k) by rw [hk1]; decide)]
  · have h0 : 0 ≤ k := by
      rw [Int32.le_iff_toInt_le] at hk ⊢
      have h2 : k.toInt ≠ (-1 : Int32).toInt := fun e => hk1 (Int32.toInt_inj.mp e)
      have e1 : (-1 : Int32).toInt = -1 := by decide
      have e0 : (0 : Int32).toInt = 0 := by decide
      rw [e1] at hk h2
      rw [e0]
      omega
    rw [if_neg hk1, if_pos h0, if_neg (Int32.not_lt.mpr h0)]
    by_cases hc : i32 (ln t) ≤ k
    · rw [if_pos hc, if_pos hc]
    · rw [if_neg hc, if_neg hc]
      have e := i_cl h0
      have hcl := i_clt (x := k)
      generalize k.toNatClampNeg = n at e hcl
      subst e
      rw [z_le (by omega) hcl] at hc
      rw [z_add, k_at hT (show p + n < T by omega) hT2, Option.bind_some, (fm_iff t p).mp hf n (by omega)]
end KTOP13

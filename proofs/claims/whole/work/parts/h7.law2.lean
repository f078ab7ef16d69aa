
theorem lin (j : Nat) {i L : Nat} (h : i + j < L) (hL : L ≤ 2048) : vp_in (i32 i + i32 j) L := by
  rw [z_add]
  exact ix_in (c_ix h (by omega))
/-- an answer of the class and what it leaves -/
theorem kq_use {σ : CS} {f : Option (Int32 × CS)} {r : Int32 × Sta} (h : KQ σ f r) : ∃ q : Int32 × CS, f = some q ∧ q.1 = r.1 ∧ KA q.2 r.2 ∧ KV q.2 ∧ ndC q.2 = ndC σ := by
  obtain ⟨τ, h1, h2, h3, h4⟩ := h
  exact ⟨(r.1, τ), h1, rfl, h2, h3, by show ndC τ = ndC σ; unfold ndC; rw [h4]⟩
theorem kn_use {n : Nat} {σ : CS} {f : Option (Int32 × CS)} {r : Int32 × Sta} (h : KN n σ f r) : ∃ q : Int32 × CS, f = some q ∧ q.1 = r.1 ∧ KA q.2 r.2 ∧ KV q.2 ∧ ndC q.2 ≤ ndC σ + n := by
  obtain ⟨τ, h1, h2, h3, h4, h5⟩ := h
  exact ⟨(r.1, τ), h1, rfl, h2, h3, h5⟩
theorem mo_use {f : Option (Int32 × MS)} {r : Int32 × Sta} (h : MO f r) : ∃ q : Int32 × MS, f = some q ∧ q.1 = r.1 ∧ MA q.2 r.2 := by
  obtain ⟨τ, h1, h2⟩ := h
  exact ⟨(r.1, τ), h1, rfl, h2⟩
set_option maxHeartbeats 4000000 in
set_option maxRecDepth 20000 in
theorem lcase_0 {p : Program} {l : Launch} {e : Env} {s : State} {m : MethodId} {below : List Frame} {meth : Method} {c : Code} {D : va_G} {cy : Nat → ClassId} {b b0 L : Nat} {xs : Nat → Int32} {σ : CS} {μ : MS} {S : Sta} {ks : Nat} (C : vC p s m #[Value.ref b] meth c code 4 ret R_law D (cyT cy)) (hz : s.heap.size = b0) (hX : va_X b L xs s s.heap) (hbl : b < s.heap.size) (hbA : ¬ geA b0 b) (hL : L ≤ 2048) (i : Nat) (hi : i + 4 ≤ L) (hs : SOK S) (hk : KA σ S) (hv : KV σ) (hm : MA μ S) (hc : ndC σ ≤ 20000) (hks : ks ≤ 7000000) (K : ∀ (S' : Sta) (σ' : CS) (μ' : MS) (ks' : Nat), SOK S' → KA σ' S' → KV σ' → MA μ' S' → ndC σ' ≤ ndC σ + 22 → ks' ≤ ks + 1100 → V p l e room_1 s m #[Value.ref b] below meth c D (geA b0) 4 (lw_Z below #[Value.ref b] s) (83 + ndC σ') ks' (wl cy b0 σ' μ') 514 [(0, .ref b), (1, .ref (adL b0 0)), (2, .ref (adM b0 0)), (3, .int (i32 i))] []) : V p l e room_1 s m #[Value.ref b] below meth c D (geA b0) 4 (lw_Z below #[Value.ref b] s) (83 + ndC σ) ks (wl cy b0 σ μ) 120 [(0, .ref b), (1, .ref (adL b0 0)), (2, .ref (adM b0 0)), (3, .int (i32 i))] [] := by
  obtain ⟨q1, hf, hq, hA, hv1, hn1⟩ := kq_use (KV_KO hv (k_type hs hk (xs (i32 i + 1).toNatClampNeg)))
  obtain ⟨q2, gf, gq, gA⟩ := mo_use (m_type hs hm (xs (i32 i + 1).toNatClampNeg))
  refine v_aload_n C 1 dL_120 rfl rfl ?_
  refine v_aload_n C 0 dL_121 rfl rfl ?_
  refine v_iload_n C 3 dL_122 rfl rfl ?_
  refine v_iconst C 1 dL_123 (by decide) ?_
  refine v_iadd C dL_124 ?_
  refine ls_ald C hX hbl hbA (lin 1 (by omega) hL) dL_125 ?_
  refine lc_callV C hz rfl [.int (xs (i32 i + 1).toNatClampNeg)] [] (c_J_type (adL_OK b0) (xs (i32 i + 1).toNatClampNeg) σ hf) hn1 hY_J_type ml_L_13 ⟨(Nat.le_of_ble_eq_true rfl), (Nat.le_of_ble_eq_true rfl)⟩ ⟨(show 83 + ndC σ ≤ 600000 by omega), (show ks ≤ 7302250 by omega)⟩ rfl rfl (Nat.le_of_ble_eq_true rfl) dL_126 ?_
  refine v_aload_n C 2 dL_129 rfl rfl ?_
  refine v_aload_n C 0 dL_130 rfl rfl ?_
  refine v_iload_n C 3 dL_131 rfl rfl ?_
  refine v_iconst C 1 dL_132 (by decide) ?_
  refine v_iadd C dL_133 ?_
  refine ls_ald C hX hbl hbA (lin 1 (by omega) hL) dL_134 ?_
  refine lm_call C [.int (xs (i32 i + 1).toNatClampNeg)] [.int q1.1] (c_type (adC_inj (adM_C b0)) (xs (i32 i + 1).toNatClampNeg) μ gf) hY_type ml_L_17 ⟨(Nat.le_of_ble_eq_true rfl), (Nat.le_of_ble_eq_true rfl)⟩ ⟨(show 83 + ndC q1.2 ≤ 600000 by omega), (show ks ≤ 7302250 by omega)⟩ rfl rfl (Nat.le_of_ble_eq_true rfl) dL_135 ?_
  exact v_icmp_eq C 514 dL_138 (by decide) (fun _ => K _ _ _ _ (s_type hs (xs (i32 i + 1).toNatClampNeg)) hA hv1 gA (by omega) (by omega)) (fun c9 => absurd (hq.trans gq.symm) c9)
set_option maxHeartbeats 4000000 in
set_option maxRecDepth 20000 in
theorem lcase_1 {p : Program} {l : Launch} {e : Env} {s : State} {m : MethodId} {below : List Frame} {meth : Method} {c : Code} {D : va_G} {cy : Nat → ClassId} {b b0 L : Nat} {xs : Nat → Int32} {σ : CS} {μ : MS} {S : Sta} {ks : Nat} (C : vC p s m #[Value.ref b] meth c code 4 ret R_law D (cyT cy)) (hz : s.heap.size = b0) (hX : va_X b L xs s s.heap) (hbl : b < s.heap.size) (hbA : ¬ geA b0 b) (hL : L ≤ 2048) (i : Nat) (hi : i + 4 ≤ L) (hs : SOK S) (hk : KA σ S) (hv : KV σ) (hm : MA μ S) (hc : ndC σ ≤ 20000) (hks : ks ≤ 7000000) (K : ∀ (S' : Sta) (σ' : CS) (μ' : MS) (ks' : Nat), SOK S' → KA σ' S' → KV σ' → MA μ' S' → ndC σ' ≤ ndC σ + 22 → ks' ≤ ks + 1100 → V p l e room_1 s m #[Value.ref b] below meth c D (geA b0) 4 (lw_Z below #[Value.ref b] s) (83 + ndC σ') ks' (wl cy b0 σ' μ') 514 [(0, .ref b), (1, .ref (adL b0 0)), (2, .ref (adM b0 0)), (3, .int (i32 i))] []) : V p l e room_1 s m #[Value.ref b] below meth c D (geA b0) 4 (lw_Z below #[Value.ref b] s) (83 + ndC σ) ks (wl cy b0 σ μ) 143 [(0, .ref b), (1, .ref (adL b0 0)), (2, .ref (adM b0 0)), (3, .int (i32 i))] [] := by
  obtain ⟨q1, hf, hq, hA, hv1, hn1⟩ := kq_use (KV_KO hv (k_clear hk))
  obtain ⟨q2, gf, gq, gA⟩ := mo_use (m_clear hs hm)
  refine v_aload_n C 1 dL_143 rfl rfl ?_
  refine lc_callV C hz rfl [] [] (c_J_clear (adL_OK b0) σ hf) hn1 hY_J_clear ml_L_18 ⟨(Nat.le_of_ble_eq_true rfl), (Nat.le_of_ble_eq_true rfl)⟩ ⟨(show 83 + ndC σ ≤ 600000 by omega), (show ks ≤ 7302250 by omega)⟩ rfl rfl (Nat.le_of_ble_eq_true rfl) dL_144 ?_
  refine v_aload_n C 2 dL_147 rfl rfl ?_
  refine lm_call C [] [.int q1.1] (c_clear (adC_inj (adM_C b0)) μ gf) hY_clear ml_L_22 ⟨(Nat.le_of_ble_eq_true rfl), (Nat.le_of_ble_eq_true rfl)⟩ ⟨(show 83 + ndC q1.2 ≤ 600000 by omega), (show ks ≤ 7302250 by omega)⟩ rfl rfl (Nat.le_of_ble_eq_true rfl) dL_148 ?_
  exact v_icmp_eq C 514 dL_151 (by decide) (fun _ => K _ _ _ _ (s_clear hs) hA hv1 gA (by omega) (by omega)) (fun c9 => absurd (hq.trans gq.symm) c9)
set_option maxHeartbeats 4000000 in
set_option maxRecDepth 20000 in
theorem lcase_2 {p : Program} {l : Launch} {e : Env} {s : State} {m : MethodId} {below : List Frame} {meth : Method} {c : Code} {D : va_G} {cy : Nat → ClassId} {b b0 L : Nat} {xs : Nat → Int32} {σ : CS} {μ : MS} {S : Sta} {ks : Nat} (C : vC p s m #[Value.ref b] meth c code 4 ret R_law D (cyT cy)) (hz : s.heap.size = b0) (hX : va_X b L xs s s.heap) (hbl : b < s.heap.size) (hbA : ¬ geA b0 b) (hL : L ≤ 2048) (i : Nat) (hi : i + 4 ≤ L) (hs : SOK S) (hk : KA σ S) (hv : KV σ) (hm : MA μ S) (hc : ndC σ ≤ 20000) (hks : ks ≤ 7000000) (K : ∀ (S' : Sta) (σ' : CS) (μ' : MS) (ks' : Nat), SOK S' → KA σ' S' → KV σ' → MA μ' S' → ndC σ' ≤ ndC σ + 22 → ks' ≤ ks + 1100 → V p l e room_1 s m #[Value.ref b] below meth c D (geA b0) 4 (lw_Z below #[Value.ref b] s) (83 + ndC σ') ks' (wl cy b0 σ' μ') 514 [(0, .ref b), (1, .ref (adL b0 0)), (2, .ref (adM b0 0)), (3, .int (i32 i))] []) : V p l e room_1 s m #[Value.ref b] below meth c D (geA b0) 4 (lw_Z below #[Value.ref b] s) (83 + ndC σ) ks (wl cy b0 σ μ) 156 [(0, .ref b), (1, .ref (adL b0 0)), (2, .ref (adM b0 0)), (3, .int (i32 i))] [] := by
  obtain ⟨q1, hf, hq, hA, hv1, hn1⟩ := kn_use (k_laws hs hk hv)
  obtain ⟨q2, gf, gq, gA⟩ := mo_use (m_laws hs hm)
  refine v_aload_n C 1 dL_156 rfl rfl ?_
  refine lc_callA C hz rfl [] [] (c_J_laws (adL_OK b0) σ hf) hY_J_laws ml_L_23 ⟨(Nat.le_of_ble_eq_true rfl), (Nat.le_of_ble_eq_true rfl)⟩ ⟨(show 83 + ndC σ + 22 ≤ 600000 by omega), (show ks + 1100 ≤ 7302250 by omega)⟩ rfl rfl (Nat.le_of_ble_eq_true rfl) dL_157 ?_
  refine v_aload_n C 2 dL_160 rfl rfl ?_
  refine lm_call C [] [.int q1.1] (c_laws (adC_inj (adM_C b0)) μ gf) hY_laws ml_L_26 ⟨(Nat.le_of_ble_eq_true rfl), (Nat.le_of_ble_eq_true rfl)⟩ ⟨(show 83 + ndC q1.2 ≤ 600000 by omega), (show ks + 1100 ≤ 7302250 by omega)⟩ rfl rfl (Nat.le_of_ble_eq_true rfl) dL_161 ?_
  exact v_icmp_eq C 514 dL_164 (by decide) (fun _ => K _ _ _ _ (s_laws hs) hA hv1 gA (by omega) (by omega)) (fun c9 => absurd (hq.trans gq.symm) c9)
set_option maxHeartbeats 4000000 in
set_option maxRecDepth 20000 in
theorem lcase_3 {p : Program} {l : Launch} {e : Env} {s : State} {m : MethodId} {below : List Frame} {meth : Method} {c : Code} {D : va_G} {cy : Nat → ClassId} {b b0 L : Nat} {xs : Nat → Int32} {σ : CS} {μ : MS} {S : Sta} {ks : Nat} (C : vC p s m #[Value.ref b] meth c code 4 ret R_law D (cyT cy)) (hz : s.heap.size = b0) (hX : va_X b L xs s s.heap) (hbl : b < s.heap.size) (hbA : ¬ geA b0 b) (hL : L ≤ 2048) (i : Nat) (hi : i + 4 ≤ L) (hs : SOK S) (hk : KA σ S) (hv : KV σ) (hm : MA μ S) (hc : ndC σ ≤ 20000) (hks : ks ≤ 7000000) (K : ∀ (S' : Sta) (σ' : CS) (μ' : MS) (ks' : Nat), SOK S' → KA σ' S' → KV σ' → MA μ' S' → ndC σ' ≤ ndC σ + 22 → ks' ≤ ks + 1100 → V p l e room_1 s m #[Value.ref b] below meth c D (geA b0) 4 (lw_Z below #[Value.ref b] s) (83 + ndC σ') ks' (wl cy b0 σ' μ') 514 [(0, .ref b), (1, .ref (adL b0 0)), (2, .ref (adM b0 0)), (3, .int (i32 i))] []) : V p l e room_1 s m #[Value.ref b] below meth c D (geA b0) 4 (lw_Z below #[Value.ref b] s) (83 + ndC σ) ks (wl cy b0 σ μ) 169 [(0, .ref b), (1, .ref (adL b0 0)), (2, .ref (adM b0 0)), (3, .int (i32 i))] [] := by
  obtain ⟨q1, hf, hq, hA, hv1, hn1⟩ := kq_use (KV_KO hv (k_law hs hk (xs (i32 i + 1).toNatClampNeg) (xs (i32 i + 2).toNatClampNeg) (xs (i32 i + 3).toNatClampNeg)))
  obtain ⟨q2, gf, gq, gA⟩ := mo_use (m_law hs hm (xs (i32 i + 1).toNatClampNeg) (xs (i32 i + 2).toNatClampNeg) (xs (i32 i + 3).toNatClampNeg))
  refine v_aload_n C 1 dL_169 rfl rfl ?_
  refine v_aload_n C 0 dL_170 rfl rfl ?_
  refine v_iload_n C 3 dL_171 rfl rfl ?_
  refine v_iconst C 1 dL_172 (by decide) ?_
  refine v_iadd C dL_173 ?_
  refine ls_ald C hX hbl hbA (lin 1 (by omega) hL) dL_174 ?_
  refine v_aload_n C 0 dL_175 rfl rfl ?_
  refine v_iload_n C 3 dL_176 rfl rfl ?_
  refine v_iconst C 2 dL_177 (by decide) ?_
  refine v_iadd C dL_178 ?_
  refine ls_ald C hX hbl hbA (lin 2 (by omega) hL) dL_179 ?_
  refine v_aload_n C 0 dL_180 rfl rfl ?_
  refine v_iload_n C 3 dL_181 rfl rfl ?_
  refine v_iconst C 3 dL_182 (by decide) ?_
  refine v_iadd C dL_183 ?_
  refine ls_ald C hX hbl hbA (lin 3 (by omega) hL) dL_184 ?_
  refine lc_callV C hz rfl [.int (xs (i32 i + 1).toNatClampNeg), .int (xs (i32 i + 2).toNatClampNeg), .int (xs (i32 i + 3).toNatClampNeg)] [] (c_J_law (adL_OK b0) (xs (i32 i + 1).toNatClampNeg) (xs (i32 i + 2).toNatClampNeg) (xs (i32 i + 3).toNatClampNeg) σ hf) hn1 hY_J_law ml_L_27 ⟨(Nat.le_of_ble_eq_true rfl), (Nat.le_of_ble_eq_true rfl)⟩ ⟨(show 83 + ndC σ ≤ 600000 by omega), (show ks ≤ 7302250 by omega)⟩ rfl rfl (Nat.le_of_ble_eq_true rfl) dL_185 ?_
  refine v_aload_n C 2 dL_188 rfl rfl ?_
  refine v_aload_n C 0 dL_189 rfl rfl ?_
  refine v_iload_n C 3 dL_190 rfl rfl ?_
  refine v_iconst C 1 dL_191 (by decide) ?_
  refine v_iadd C dL_192 ?_
  refine ls_ald C hX hbl hbA (lin 1 (by omega) hL) dL_193 ?_
  refine v_aload_n C 0 dL_194 rfl rfl ?_
  refine v_iload_n C 3 dL_195 rfl rfl ?_
  refine v_iconst C 2 dL_196 (by decide) ?_
  refine v_iadd C dL_197 ?_
  refine ls_ald C hX hbl hbA (lin 2 (by omega) hL) dL_198 ?_
  refine v_aload_n C 0 dL_199 rfl rfl ?_
  refine v_iload_n C 3 dL_200 rfl rfl ?_
  refine v_iconst C 3 dL_201 (by decide) ?_
  refine v_iadd C dL_202 ?_
  refine ls_ald C hX hbl hbA (lin 3 (by omega) hL) dL_203 ?_
  refine lm_call C [.int (xs (i32 i + 1).toNatClampNeg), .int (xs (i32 i + 2).toNatClampNeg), .int (xs (i32 i + 3).toNatClampNeg)] [.int q1.1] (c_law (adC_inj (adM_C b0)) (xs (i32 i + 1).toNatClampNeg) (xs (i32 i + 2).toNatClampNeg) (xs (i32 i + 3).toNatClampNeg) μ gf) hY_law ml_L_31 ⟨(Nat.le_of_ble_eq_true rfl), (Nat.le_of_ble_eq_true rfl)⟩ ⟨(show 83 + ndC q1.2 ≤ 600000 by omega), (show ks ≤ 7302250 by omega)⟩ rfl rfl (Nat.le_of_ble_eq_true rfl) dL_204 ?_
  exact v_icmp_eq C 514 dL_207 (by decide) (fun _ => K _ _ _ _ hs hA hv1 gA (by omega) (by omega)) (fun c9 => absurd (hq.trans gq.symm) c9)
set_option maxHeartbeats 4000000 in
set_option maxRecDepth 20000 in
theorem lcase_4 {p : Program} {l : Launch} {e : Env} {s : State} {m : MethodId} {below : List Frame} {meth : Method} {c : Code} {D : va_G} {cy : Nat → ClassId} {b b0 L : Nat} {xs : Nat → Int32} {σ : CS} {μ : MS} {S : Sta} {ks : Nat} (C : vC p s m #[Value.ref b] meth c code 4 ret R_law D (cyT cy)) (hz : s.heap.size = b0) (hX : va_X b L xs s s.heap) (hbl : b < s.heap.size) (hbA : ¬ geA b0 b) (hL : L ≤ 2048) (i : Nat) (hi : i + 4 ≤ L) (hs : SOK S) (hk : KA σ S) (hv : KV σ) (hm : MA μ S) (hc : ndC σ ≤ 20000) (hks : ks ≤ 7000000) (K : ∀ (S' : Sta) (σ' : CS) (μ' : MS) (ks' : Nat), SOK S' → KA σ' S' → KV σ' → MA μ' S' → ndC σ' ≤ ndC σ + 22 → ks' ≤ ks + 1100 → V p l e room_1 s m #[Value.ref b] below meth c D (geA b0) 4 (lw_Z below #[Value.ref b] s) (83 + ndC σ') ks' (wl cy b0 σ' μ') 514 [(0, .ref b), (1, .ref (adL b0 0)), (2, .ref (adM b0 0)), (3, .int (i32 i))] []) : V p l e room_1 s m #[Value.ref b] below meth c D (geA b0) 4 (lw_Z below #[Value.ref b] s) (83 + ndC σ) ks (wl cy b0 σ μ) 212 [(0, .ref b), (1, .ref (adL b0 0)), (2, .ref (adM b0 0)), (3, .int (i32 i))] [] := by
  obtain ⟨q1, hf, hq, hA, hv1, hn1⟩ := kq_use (k_given hs hk hv (xs (i32 i + 1).toNatClampNeg))
  obtain ⟨q2, gf, gq, gA⟩ := mo_use (m_given hs hm (xs (i32 i + 1).toNatClampNeg))
  refine v_aload_n C 1 dL_212 rfl rfl ?_
  refine v_aload_n C 0 dL_213 rfl rfl ?_
  refine v_iload_n C 3 dL_214 rfl rfl ?_
  refine v_iconst C 1 dL_215 (by decide) ?_
  refine v_iadd C dL_216 ?_
  refine ls_ald C hX hbl hbA (lin 1 (by omega) hL) dL_217 ?_
  refine lc_callV C hz rfl [.int (xs (i32 i + 1).toNatClampNeg)] [] (c_J_given (adL_OK b0) (xs (i32 i + 1).toNatClampNeg) σ hf) hn1 hY_J_given ml_L_32 ⟨(Nat.le_of_ble_eq_true rfl), (Nat.le_of_ble_eq_true rfl)⟩ ⟨(show 83 + ndC σ ≤ 600000 by omega), (show ks ≤ 7302250 by omega)⟩ rfl rfl (Nat.le_of_ble_eq_true rfl) dL_218 ?_
  refine v_aload_n C 2 dL_221 rfl rfl ?_
  refine v_aload_n C 0 dL_222 rfl rfl ?_
  refine v_iload_n C 3 dL_223 rfl rfl ?_
  refine v_iconst C 1 dL_224 (by decide) ?_
  refine v_iadd C dL_225 ?_
  refine ls_ald C hX hbl hbA (lin 1 (by omega) hL) dL_226 ?_
  refine lm_call C [.int (xs (i32 i + 1).toNatClampNeg)] [.int q1.1] (c_given (adC_inj (adM_C b0)) (xs (i32 i + 1).toNatClampNeg) μ gf) hY_given ml_L_35 ⟨(Nat.le_of_ble_eq_true rfl), (Nat.le_of_ble_eq_true rfl)⟩ ⟨(show 83 + ndC q1.2 ≤ 600000 by omega), (show ks ≤ 7302250 by omega)⟩ rfl rfl (Nat.le_of_ble_eq_true rfl) dL_227 ?_
  exact v_icmp_eq C 514 dL_230 (by decide) (fun _ => K _ _ _ _ hs hA hv1 gA (by omega) (by omega)) (fun c9 => absurd (hq.trans gq.symm) c9)
set_option maxHeartbeats 4000000 in
set_option maxRecDepth 20000 in
theorem lcase_5 {p : Program} {l : Launch} {e : Env} {s : State} {m : MethodId} {below : List Frame} {meth : Method} {c : Code} {D : va_G} {cy : Nat → ClassId} {b b0 L : Nat} {xs : Nat → Int32} {σ : CS} {μ : MS} {S : Sta} {ks : Nat} (C : vC p s m #[Value.ref b] meth c code 4 ret R_law D (cyT cy)) (hz : s.heap.size = b0) (hX : va_X b L xs s s.heap) (hbl : b < s.heap.size) (hbA : ¬ geA b0 b) (hL : L ≤ 2048) (i : Nat) (hi : i + 4 ≤ L) (hs : SOK S) (hk : KA σ S) (hv : KV σ) (hm : MA μ S) (hc : ndC σ ≤ 20000) (hks : ks ≤ 7000000) (K : ∀ (S' : Sta) (σ' : CS) (μ' : MS) (ks' : Nat), SOK S' → KA σ' S' → KV σ' → MA μ' S' → ndC σ' ≤ ndC σ + 22 → ks' ≤ ks + 1100 → V p l e room_1 s m #[Value.ref b] below meth c D (geA b0) 4 (lw_Z below #[Value.ref b] s) (83 + ndC σ') ks' (wl cy b0 σ' μ') 514 [(0, .ref b), (1, .ref (adL b0 0)), (2, .ref (adM b0 0)), (3, .int (i32 i))] []) : V p l e room_1 s m #[Value.ref b] below meth c D (geA b0) 4 (lw_Z below #[Value.ref b] s) (83 + ndC σ) ks (wl cy b0 σ μ) 235 [(0, .ref b), (1, .ref (adL b0 0)), (2, .ref (adM b0 0)), (3, .int (i32 i))] [] := by
  obtain ⟨q1, hf, hq, hA, hv1, hn1⟩ := kq_use (k_found hs hk hv (xs (i32 i + 1).toNatClampNeg))
  obtain ⟨q2, gf, gq, gA⟩ := mo_use (m_found hs hm (xs (i32 i + 1).toNatClampNeg))
  refine v_aload_n C 1 dL_235 rfl rfl ?_
  refine v_aload_n C 0 dL_236 rfl rfl ?_
  refine v_iload_n C 3 dL_237 rfl rfl ?_
  refine v_iconst C 1 dL_238 (by decide) ?_
  refine v_iadd C dL_239 ?_
  refine ls_ald C hX hbl hbA (lin 1 (by omega) hL) dL_240 ?_
  refine lc_callV C hz rfl [.int (xs (i32 i + 1).toNatClampNeg)] [] (c_J_found (adL_OK b0) (xs (i32 i + 1).toNatClampNeg) σ hf) hn1 hY_J_found ml_L_36 ⟨(Nat.le_of_ble_eq_true rfl), (Nat.le_of_ble_eq_true rfl)⟩ ⟨(show 83 + ndC σ ≤ 600000 by omega), (show ks ≤ 7302250 by omega)⟩ rfl rfl (Nat.le_of_ble_eq_true rfl) dL_241 ?_
  refine v_aload_n C 2 dL_244 rfl rfl ?_
  refine v_aload_n C 0 dL_245 rfl rfl ?_
  refine v_iload_n C 3 dL_246 rfl rfl ?_
  refine v_iconst C 1 dL_247 (by decide) ?_
  refine v_iadd C dL_248 ?_
  refine ls_ald C hX hbl hbA (lin 1 (by omega) hL) dL_249 ?_
  refine lm_call C [.int (xs (i32 i + 1).toNatClampNeg)] [.int q1.1] (c_found (adC_inj (adM_C b0)) (xs (i32 i + 1).toNatClampNeg) μ gf) hY_found ml_L_39 ⟨(Nat.le_of_ble_eq_true rfl), (Nat.le_of_ble_eq_true rfl)⟩ ⟨(show 83 + ndC q1.2 ≤ 600000 by omega), (show ks ≤ 7302250 by omega)⟩ rfl rfl (Nat.le_of_ble_eq_true rfl) dL_250 ?_
  exact v_icmp_eq C 514 dL_253 (by decide) (fun _ => K _ _ _ _ hs hA hv1 gA (by omega) (by omega)) (fun c9 => absurd (hq.trans gq.symm) c9)
set_option maxHeartbeats 4000000 in
set_option maxRecDepth 20000 in
theorem lcase_6 {p : Program} {l : Launch} {e : Env} {s : State} {m : MethodId} {below : List Frame} {meth : Method} {c : Code} {D : va_G} {cy : Nat → ClassId} {b b0 L : Nat} {xs : Nat → Int32} {σ : CS} {μ : MS} {S : Sta} {ks : Nat} (C : vC p s m #[Value.ref b] meth c code 4 ret R_law D (cyT cy)) (hz : s.heap.size = b0) (hX : va_X b L xs s s.heap) (hbl : b < s.heap.size) (hbA : ¬ geA b0 b) (hL : L ≤ 2048) (i : Nat) (hi : i + 4 ≤ L) (hs : SOK S) (hk : KA σ S) (hv : KV σ) (hm : MA μ S) (hc : ndC σ ≤ 20000) (hks : ks ≤ 7000000) (K : ∀ (S' : Sta) (σ' : CS) (μ' : MS) (ks' : Nat), SOK S' → KA σ' S' → KV σ' → MA μ' S' → ndC σ' ≤ ndC σ + 22 → ks' ≤ ks + 1100 → V p l e room_1 s m #[Value.ref b] below meth c D (geA b0) 4 (lw_Z below #[Value.ref b] s) (83 + ndC σ') ks' (wl cy b0 σ' μ') 514 [(0, .ref b), (1, .ref (adL b0 0)), (2, .ref (adM b0 0)), (3, .int (i32 i))] []) : V p l e room_1 s m #[Value.ref b] below meth c D (geA b0) 4 (lw_Z below #[Value.ref b] s) (83 + ndC σ) ks (wl cy b0 σ μ) 258 [(0, .ref b), (1, .ref (adL b0 0)), (2, .ref (adM b0 0)), (3, .int (i32 i))] [] := by
  obtain ⟨q1, hf, hq, hA, hv1, hn1⟩ := kq_use (k_same hs hk hv)
  obtain ⟨q2, gf, gq, gA⟩ := mo_use (m_same hs hm)
  refine v_aload_n C 1 dL_258 rfl rfl ?_
  refine lc_callV C hz rfl [] [] (c_J_same (adL_OK b0) σ hf) hn1 hY_J_same ml_L_40 ⟨(Nat.le_of_ble_eq_true rfl), (Nat.le_of_ble_eq_true rfl)⟩ ⟨(show 83 + ndC σ ≤ 600000 by omega), (show ks ≤ 7302250 by omega)⟩ rfl rfl (Nat.le_of_ble_eq_true rfl) dL_259 ?_
  refine v_aload_n C 2 dL_262 rfl rfl ?_
  refine lm_call C [] [.int q1.1] (c_same (adC_inj (adM_C b0)) μ gf) hY_same ml_L_43 ⟨(Nat.le_of_ble_eq_true rfl), (Nat.le_of_ble_eq_true rfl)⟩ ⟨(show 83 + ndC q1.2 ≤ 600000 by omega), (show ks ≤ 7302250 by omega)⟩ rfl rfl (Nat.le_of_ble_eq_true rfl) dL_263 ?_
  exact v_icmp_eq C 514 dL_266 (by decide) (fun _ => K _ _ _ _ hs hA hv1 gA (by omega) (by omega)) (fun c9 => absurd (hq.trans gq.symm) c9)
set_option maxHeartbeats 4000000 in
set_option maxRecDepth 20000 in
theorem lcase_7 {p : Program} {l : Launch} {e : Env} {s : State} {m : MethodId} {below : List Frame} {meth : Method} {c : Code} {D : va_G} {cy : Nat → ClassId} {b b0 L : Nat} {xs : Nat → Int32} {σ : CS} {μ : MS} {S : Sta} {ks : Nat} (C : vC p s m #[Value.ref b] meth c code 4 ret R_law D (cyT cy)) (hz : s.heap.size = b0) (hX : va_X b L xs s s.heap) (hbl : b < s.heap.size) (hbA : ¬ geA b0 b) (hL : L ≤ 2048) (i : Nat) (hi : i + 4 ≤ L) (hs : SOK S) (hk : KA σ S) (hv : KV σ) (hm : MA μ S) (hc : ndC σ ≤ 20000) (hks : ks ≤ 7000000) (K : ∀ (S' : Sta) (σ' : CS) (μ' : MS) (ks' : Nat), SOK S' → KA σ' S' → KV σ' → MA μ' S' → ndC σ' ≤ ndC σ + 22 → ks' ≤ ks + 1100 → V p l e room_1 s m #[Value.ref b] below meth c D (geA b0) 4 (lw_Z below #[Value.ref b] s) (83 + ndC σ') ks' (wl cy b0 σ' μ') 514 [(0, .ref b), (1, .ref (adL b0 0)), (2, .ref (adM b0 0)), (3, .int (i32 i))] []) : V p l e room_1 s m #[Value.ref b] below meth c D (geA b0) 4 (lw_Z below #[Value.ref b] s) (83 + ndC σ) ks (wl cy b0 σ μ) 271 [(0, .ref b), (1, .ref (adL b0 0)), (2, .ref (adM b0 0)), (3, .int (i32 i))] [] := by
  obtain ⟨q1, hf, hq, hA, hv1, hn1⟩ := kn_use (k_enters hs hk hv)
  obtain ⟨q2, gf, gq, gA⟩ := mo_use (m_enters hs hm)
  refine v_aload_n C 1 dL_271 rfl rfl ?_
  refine lc_callA C hz rfl [] [] (c_J_enters (adL_OK b0) σ hf) hY_J_enters ml_L_44 ⟨(Nat.le_of_ble_eq_true rfl), (Nat.le_of_ble_eq_true rfl)⟩ ⟨(show 83 + ndC σ + 5 ≤ 600000 by omega), (show ks + 104 ≤ 7302250 by omega)⟩ rfl rfl (Nat.le_of_ble_eq_true rfl) dL_272 ?_
  refine v_aload_n C 2 dL_275 rfl rfl ?_
  refine lm_call C [] [.int q1.1] (c_enters (adC_inj (adM_C b0)) μ gf) hY_enters ml_L_47 ⟨(Nat.le_of_ble_eq_true rfl), (Nat.le_of_ble_eq_true rfl)⟩ ⟨(show 83 + ndC q1.2 ≤ 600000 by omega), (show ks + 104 ≤ 7302250 by omega)⟩ rfl rfl (Nat.le_of_ble_eq_true rfl) dL_276 ?_
  exact v_icmp_eq C 514 dL_279 (by decide) (fun _ => K _ _ _ _ (s_enters hs) hA hv1 gA (by omega) (by omega)) (fun c9 => absurd (hq.trans gq.symm) c9)
set_option maxHeartbeats 4000000 in
set_option maxRecDepth 20000 in
theorem lcase_8 {p : Program} {l : Launch} {e : Env} {s : State} {m : MethodId} {below : List Frame} {meth : Method} {c : Code} {D : va_G} {cy : Nat → ClassId} {b b0 L : Nat} {xs : Nat → Int32} {σ : CS} {μ : MS} {S : Sta} {ks : Nat} (C : vC p s m #[Value.ref b] meth c code 4 ret R_law D (cyT cy)) (hz : s.heap.size = b0) (hX : va_X b L xs s s.heap) (hbl : b < s.heap.size) (hbA : ¬ geA b0 b) (hL : L ≤ 2048) (i : Nat) (hi : i + 4 ≤ L) (hs : SOK S) (hk : KA σ S) (hv : KV σ) (hm : MA μ S) (hc : ndC σ ≤ 20000) (hks : ks ≤ 7000000) (K : ∀ (S' : Sta) (σ' : CS) (μ' : MS) (ks' : Nat), SOK S' → KA σ' S' → KV σ' → MA μ' S' → ndC σ' ≤ ndC σ + 22 → ks' ≤ ks + 1100 → V p l e room_1 s m #[Value.ref b] below meth c D (geA b0) 4 (lw_Z below #[Value.ref b] s) (83 + ndC σ') ks' (wl cy b0 σ' μ') 514 [(0, .ref b), (1, .ref (adL b0 0)), (2, .ref (adM b0 0)), (3, .int (i32 i))] []) : V p l e room_1 s m #[Value.ref b] below meth c D (geA b0) 4 (lw_Z below #[Value.ref b] s) (83 + ndC σ) ks (wl cy b0 σ μ) 284 [(0, .ref b), (1, .ref (adL b0 0)), (2, .ref (adM b0 0)), (3, .int (i32 i))] [] := by
  obtain ⟨q1, hf, hq, hA, hv1, hn1⟩ := kq_use (KV_KO hv (k_drops hs hk (xs (i32 i + 1).toNatClampNeg)))
  obtain ⟨q2, gf, gq, gA⟩ := mo_use (m_drops hs hm (xs (i32 i + 1).toNatClampNeg))
  refine v_aload_n C 1 dL_284 rfl rfl ?_
  refine v_aload_n C 0 dL_285 rfl rfl ?_
  refine v_iload_n C 3 dL_286 rfl rfl ?_
  refine v_iconst C 1 dL_287 (by decide) ?_
  refine v_iadd C dL_288 ?_
  refine ls_ald C hX hbl hbA (lin 1 (by omega) hL) dL_289 ?_
  refine lc_callV C hz rfl [.int (xs (i32 i + 1).toNatClampNeg)] [] (c_J_drops (adL_OK b0) (xs (i32 i + 1).toNatClampNeg) σ hf) hn1 hY_J_drops ml_L_48 ⟨(Nat.le_of_ble_eq_true rfl), (Nat.le_of_ble_eq_true rfl)⟩ ⟨(show 83 + ndC σ ≤ 600000 by omega), (show ks ≤ 7302250 by omega)⟩ rfl rfl (Nat.le_of_ble_eq_true rfl) dL_290 ?_
  refine v_aload_n C 2 dL_293 rfl rfl ?_
  refine v_aload_n C 0 dL_294 rfl rfl ?_
  refine v_iload_n C 3 dL_295 rfl rfl ?_
  refine v_iconst C 1 dL_296 (by decide) ?_
  refine v_iadd C dL_297 ?_
  refine ls_ald C hX hbl hbA (lin 1 (by omega) hL) dL_298 ?_
  refine lm_call C [.int (xs (i32 i + 1).toNatClampNeg)] [.int q1.1] (c_drops (adC_inj (adM_C b0)) (xs (i32 i + 1).toNatClampNeg) μ gf) hY_drops ml_L_51 ⟨(Nat.le_of_ble_eq_true rfl), (Nat.le_of_ble_eq_true rfl)⟩ ⟨(show 83 + ndC q1.2 ≤ 600000 by omega), (show ks ≤ 7302250 by omega)⟩ rfl rfl (Nat.le_of_ble_eq_true rfl) dL_299 ?_
  exact v_icmp_eq C 514 dL_302 (by decide) (fun _ => K _ _ _ _ (s_drops hs (xs (i32 i + 1).toNatClampNeg)) hA hv1 gA (by omega) (by omega)) (fun c9 => absurd (hq.trans gq.symm) c9)
set_option maxHeartbeats 4000000 in
set_option maxRecDepth 20000 in
theorem lcase_9 {p : Program} {l : Launch} {e : Env} {s : State} {m : MethodId} {below : List Frame} {meth : Method} {c : Code} {D : va_G} {cy : Nat → ClassId} {b b0 L : Nat} {xs : Nat → Int32} {σ : CS} {μ : MS} {S : Sta} {ks : Nat} (C : vC p s m #[Value.ref b] meth c code 4 ret R_law D (cyT cy)) (hz : s.heap.size = b0) (hX : va_X b L xs s s.heap) (hbl : b < s.heap.size) (hbA : ¬ geA b0 b) (hL : L ≤ 2048) (i : Nat) (hi : i + 4 ≤ L) (hs : SOK S) (hk : KA σ S) (hv : KV σ) (hm : MA μ S) (hc : ndC σ ≤ 20000) (hks : ks ≤ 7000000) (K : ∀ (S' : Sta) (σ' : CS) (μ' : MS) (ks' : Nat), SOK S' → KA σ' S' → KV σ' → MA μ' S' → ndC σ' ≤ ndC σ + 22 → ks' ≤ ks + 1100 → V p l e room_1 s m #[Value.ref b] below meth c D (geA b0) 4 (lw_Z below #[Value.ref b] s) (83 + ndC σ') ks' (wl cy b0 σ' μ') 514 [(0, .ref b), (1, .ref (adL b0 0)), (2, .ref (adM b0 0)), (3, .int (i32 i))] []) : V p l e room_1 s m #[Value.ref b] below meth c D (geA b0) 4 (lw_Z below #[Value.ref b] s) (83 + ndC σ) ks (wl cy b0 σ μ) 307 [(0, .ref b), (1, .ref (adL b0 0)), (2, .ref (adM b0 0)), (3, .int (i32 i))] [] := by
  obtain ⟨q1, hf, hq, hA, hv1, hn1⟩ := kq_use (KV_KO hv (k_undo hs hk))
  obtain ⟨q2, gf, gq, gA⟩ := mo_use (m_undo hs hm)
  refine v_aload_n C 1 dL_307 rfl rfl ?_
  refine lc_callV C hz rfl [] [] (c_J_undo (adL_OK b0) σ hf) hn1 hY_J_undo ml_L_52 ⟨(Nat.le_of_ble_eq_true rfl), (Nat.le_of_ble_eq_true rfl)⟩ ⟨(show 83 + ndC σ ≤ 600000 by omega), (show ks ≤ 7302250 by omega)⟩ rfl rfl (Nat.le_of_ble_eq_true rfl) dL_308 ?_
  refine v_aload_n C 2 dL_311 rfl rfl ?_
  refine lm_call C [] [.int q1.1] (c_undo (adC_inj (adM_C b0)) μ gf) hY_undo ml_L_55 ⟨(Nat.le_of_ble_eq_true rfl), (Nat.le_of_ble_eq_true rfl)⟩ ⟨(show 83 + ndC q1.2 ≤ 600000 by omega), (show ks ≤ 7302250 by omega)⟩ rfl rfl (Nat.le_of_ble_eq_true rfl) dL_312 ?_
  exact v_icmp_eq C 514 dL_315 (by decide) (fun _ => K _ _ _ _ (s_undo hs) hA hv1 gA (by omega) (by omega)) (fun c9 => absurd (hq.trans gq.symm) c9)
set_option maxHeartbeats 4000000 in
set_option maxRecDepth 20000 in
theorem lcase_10 {p : Program} {l : Launch} {e : Env} {s : State} {m : MethodId} {below : List Frame} {meth : Method} {c : Code} {D : va_G} {cy : Nat → ClassId} {b b0 L : Nat} {xs : Nat → Int32} {σ : CS} {μ : MS} {S : Sta} {ks : Nat} (C : vC p s m #[Value.ref b] meth c code 4 ret R_law D (cyT cy)) (hz : s.heap.size = b0) (hX : va_X b L xs s s.heap) (hbl : b < s.heap.size) (hbA : ¬ geA b0 b) (hL : L ≤ 2048) (i : Nat) (hi : i + 4 ≤ L) (hs : SOK S) (hk : KA σ S) (hv : KV σ) (hm : MA μ S) (hc : ndC σ ≤ 20000) (hks : ks ≤ 7000000) (K : ∀ (S' : Sta) (σ' : CS) (μ' : MS) (ks' : Nat), SOK S' → KA σ' S' → KV σ' → MA μ' S' → ndC σ' ≤ ndC σ + 22 → ks' ≤ ks + 1100 → V p l e room_1 s m #[Value.ref b] below meth c D (geA b0) 4 (lw_Z below #[Value.ref b] s) (83 + ndC σ') ks' (wl cy b0 σ' μ') 514 [(0, .ref b), (1, .ref (adL b0 0)), (2, .ref (adM b0 0)), (3, .int (i32 i))] []) : V p l e room_1 s m #[Value.ref b] below meth c D (geA b0) 4 (lw_Z below #[Value.ref b] s) (83 + ndC σ) ks (wl cy b0 σ μ) 320 [(0, .ref b), (1, .ref (adL b0 0)), (2, .ref (adM b0 0)), (3, .int (i32 i))] [] := by
  obtain ⟨q1, hf, hq, hA, hv1, hn1⟩ := kq_use (KV_KO hv (k_entry hs hk (xs (i32 i + 1).toNatClampNeg) (xs (i32 i + 2).toNatClampNeg) (xs (i32 i + 3).toNatClampNeg)))
  obtain ⟨q2, gf, gq, gA⟩ := mo_use (m_entry hs hm (xs (i32 i + 1).toNatClampNeg) (xs (i32 i + 2).toNatClampNeg) (xs (i32 i + 3).toNatClampNeg))
  refine v_aload_n C 1 dL_320 rfl rfl ?_
  refine v_aload_n C 0 dL_321 rfl rfl ?_
  refine v_iload_n C 3 dL_322 rfl rfl ?_
  refine v_iconst C 1 dL_323 (by decide) ?_
  refine v_iadd C dL_324 ?_
  refine ls_ald C hX hbl hbA (lin 1 (by omega) hL) dL_325 ?_
  refine v_aload_n C 0 dL_326 rfl rfl ?_
  refine v_iload_n C 3 dL_327 rfl rfl ?_
  refine v_iconst C 2 dL_328 (by decide) ?_
  refine v_iadd C dL_329 ?_
  refine ls_ald C hX hbl hbA (lin 2 (by omega) hL) dL_330 ?_
  refine v_aload_n C 0 dL_331 rfl rfl ?_
  refine v_iload_n C 3 dL_332 rfl rfl ?_
  refine v_iconst C 3 dL_333 (by decide) ?_
  refine v_iadd C dL_334 ?_
  refine ls_ald C hX hbl hbA (lin 3 (by omega) hL) dL_335 ?_
  refine lc_callV C hz rfl [.int (xs (i32 i + 1).toNatClampNeg), .int (xs (i32 i + 2).toNatClampNeg), .int (xs (i32 i + 3).toNatClampNeg)] [] (c_J_entry (adL_OK b0) (xs (i32 i + 1).toNatClampNeg) (xs (i32 i + 2).toNatClampNeg) (xs (i32 i + 3).toNatClampNeg) σ hf) hn1 hY_J_entry ml_L_56 ⟨(Nat.le_of_ble_eq_true rfl), (Nat.le_of_ble_eq_true rfl)⟩ ⟨(show 83 + ndC σ ≤ 600000 by omega), (show ks ≤ 7302250 by omega)⟩ rfl rfl (Nat.le_of_ble_eq_true rfl) dL_336 ?_
  refine v_aload_n C 2 dL_339 rfl rfl ?_
  refine v_aload_n C 0 dL_340 rfl rfl ?_
  refine v_iload_n C 3 dL_341 rfl rfl ?_
  refine v_iconst C 1 dL_342 (by decide) ?_
  refine v_iadd C dL_343 ?_
  refine ls_ald C hX hbl hbA (lin 1 (by omega) hL) dL_344 ?_
  refine v_aload_n C 0 dL_345 rfl rfl ?_
  refine v_iload_n C 3 dL_346 rfl rfl ?_
  refine v_iconst C 2 dL_347 (by decide) ?_
  refine v_iadd C dL_348 ?_
  refine ls_ald C hX hbl hbA (lin 2 (by omega) hL) dL_349 ?_
  refine v_aload_n C 0 dL_350 rfl rfl ?_
  refine v_iload_n C 3 dL_351 rfl rfl ?_
  refine v_iconst C 3 dL_352 (by decide) ?_
  refine v_iadd C dL_353 ?_
  refine ls_ald C hX hbl hbA (lin 3 (by omega) hL) dL_354 ?_
  refine lm_call C [.int (xs (i32 i + 1).toNatClampNeg), .int (xs (i32 i + 2).toNatClampNeg), .int (xs (i32 i + 3).toNatClampNeg)] [.int q1.1] (c_entry (adC_inj (adM_C b0)) (xs (i32 i + 1).toNatClampNeg) (xs (i32 i + 2).toNatClampNeg) (xs (i32 i + 3).toNatClampNeg) μ gf) hY_entry ml_L_59 ⟨(Nat.le_of_ble_eq_true rfl), (Nat.le_of_ble_eq_true rfl)⟩ ⟨(show 83 + ndC q1.2 ≤ 600000 by omega), (show ks ≤ 7302250 by omega)⟩ rfl rfl (Nat.le_of_ble_eq_true rfl) dL_355 ?_
  exact v_icmp_eq C 514 dL_358 (by decide) (fun _ => K _ _ _ _ hs hA hv1 gA (by omega) (by omega)) (fun c9 => absurd (hq.trans gq.symm) c9)
set_option maxHeartbeats 4000000 in
set_option maxRecDepth 20000 in
theorem lcase_11 {p : Program} {l : Launch} {e : Env} {s : State} {m : MethodId} {below : List Frame} {meth : Method} {c : Code} {D : va_G} {cy : Nat → ClassId} {b b0 L : Nat} {xs : Nat → Int32} {σ : CS} {μ : MS} {S : Sta} {ks : Nat} (C : vC p s m #[Value.ref b] meth c code 4 ret R_law D (cyT cy)) (hz : s.heap.size = b0) (hX : va_X b L xs s s.heap) (hbl : b < s.heap.size) (hbA : ¬ geA b0 b) (hL : L ≤ 2048) (i : Nat) (hi : i + 4 ≤ L) (hs : SOK S) (hk : KA σ S) (hv : KV σ) (hm : MA μ S) (hc : ndC σ ≤ 20000) (hks : ks ≤ 7000000) (K : ∀ (S' : Sta) (σ' : CS) (μ' : MS) (ks' : Nat), SOK S' → KA σ' S' → KV σ' → MA μ' S' → ndC σ' ≤ ndC σ + 22 → ks' ≤ ks + 1100 → V p l e room_1 s m #[Value.ref b] below meth c D (geA b0) 4 (lw_Z below #[Value.ref b] s) (83 + ndC σ') ks' (wl cy b0 σ' μ') 514 [(0, .ref b), (1, .ref (adL b0 0)), (2, .ref (adM b0 0)), (3, .int (i32 i))] []) : V p l e room_1 s m #[Value.ref b] below meth c D (geA b0) 4 (lw_Z below #[Value.ref b] s) (83 + ndC σ) ks (wl cy b0 σ μ) 363 [(0, .ref b), (1, .ref (adL b0 0)), (2, .ref (adM b0 0)), (3, .int (i32 i))] [] := by
  obtain ⟨q1, hf, hq, hA, hv1, hn1⟩ := kq_use (KV_KO hv (k_like hs hk (xs (i32 i + 1).toNatClampNeg) (xs (i32 i + 2).toNatClampNeg)))
  obtain ⟨q2, gf, gq, gA⟩ := mo_use (m_like hs hm (xs (i32 i + 1).toNatClampNeg) (xs (i32 i + 2).toNatClampNeg))
  refine v_aload_n C 1 dL_363 rfl rfl ?_
  refine v_aload_n C 0 dL_364 rfl rfl ?_
  refine v_iload_n C 3 dL_365 rfl rfl ?_
  refine v_iconst C 1 dL_366 (by decide) ?_
  refine v_iadd C dL_367 ?_
  refine ls_ald C hX hbl hbA (lin 1 (by omega) hL) dL_368 ?_
  refine v_aload_n C 0 dL_369 rfl rfl ?_
  refine v_iload_n C 3 dL_370 rfl rfl ?_
  refine v_iconst C 2 dL_371 (by decide) ?_
  refine v_iadd C dL_372 ?_
  refine ls_ald C hX hbl hbA (lin 2 (by omega) hL) dL_373 ?_
  refine lc_callV C hz rfl [.int (xs (i32 i + 1).toNatClampNeg), .int (xs (i32 i + 2).toNatClampNeg)] [] (c_J_like (adL_OK b0) (xs (i32 i + 1).toNatClampNeg) (xs (i32 i + 2).toNatClampNeg) σ hf) hn1 hY_J_like ml_L_60 ⟨(Nat.le_of_ble_eq_true rfl), (Nat.le_of_ble_eq_true rfl)⟩ ⟨(show 83 + ndC σ ≤ 600000 by omega), (show ks ≤ 7302250 by omega)⟩ rfl rfl (Nat.le_of_ble_eq_true rfl) dL_374 ?_
  refine v_aload_n C 2 dL_377 rfl rfl ?_
  refine v_aload_n C 0 dL_378 rfl rfl ?_
  refine v_iload_n C 3 dL_379 rfl rfl ?_
  refine v_iconst C 1 dL_380 (by decide) ?_
  refine v_iadd C dL_381 ?_
  refine ls_ald C hX hbl hbA (lin 1 (by omega) hL) dL_382 ?_
  refine v_aload_n C 0 dL_383 rfl rfl ?_
  refine v_iload_n C 3 dL_384 rfl rfl ?_
  refine v_iconst C 2 dL_385 (by decide) ?_
  refine v_iadd C dL_386 ?_
  refine ls_ald C hX hbl hbA (lin 2 (by omega) hL) dL_387 ?_
  refine lm_call C [.int (xs (i32 i + 1).toNatClampNeg), .int (xs (i32 i + 2).toNatClampNeg)] [.int q1.1] (c_like (adC_inj (adM_C b0)) (xs (i32 i + 1).toNatClampNeg) (xs (i32 i + 2).toNatClampNeg) μ gf) hY_like ml_L_64 ⟨(Nat.le_of_ble_eq_true rfl), (Nat.le_of_ble_eq_true rfl)⟩ ⟨(show 83 + ndC q1.2 ≤ 600000 by omega), (show ks ≤ 7302250 by omega)⟩ rfl rfl (Nat.le_of_ble_eq_true rfl) dL_388 ?_
  exact v_icmp_eq C 514 dL_391 (by decide) (fun _ => K _ _ _ _ hs hA hv1 gA (by omega) (by omega)) (fun c9 => absurd (hq.trans gq.symm) c9)
set_option maxHeartbeats 4000000 in
set_option maxRecDepth 20000 in
theorem lcase_12 {p : Program} {l : Launch} {e : Env} {s : State} {m : MethodId} {below : List Frame} {meth : Method} {c : Code} {D : va_G} {cy : Nat → ClassId} {b b0 L : Nat} {xs : Nat → Int32} {σ : CS} {μ : MS} {S : Sta} {ks : Nat} (C : vC p s m #[Value.ref b] meth c code 4 ret R_law D (cyT cy)) (hz : s.heap.size = b0) (hX : va_X b L xs s s.heap) (hbl : b < s.heap.size) (hbA : ¬ geA b0 b) (hL : L ≤ 2048) (i : Nat) (hi : i + 4 ≤ L) (hs : SOK S) (hk : KA σ S) (hv : KV σ) (hm : MA μ S) (hc : ndC σ ≤ 20000) (hks : ks ≤ 7000000) (K : ∀ (S' : Sta) (σ' : CS) (μ' : MS) (ks' : Nat), SOK S' → KA σ' S' → KV σ' → MA μ' S' → ndC σ' ≤ ndC σ + 22 → ks' ≤ ks + 1100 → V p l e room_1 s m #[Value.ref b] below meth c D (geA b0) 4 (lw_Z below #[Value.ref b] s) (83 + ndC σ') ks' (wl cy b0 σ' μ') 514 [(0, .ref b), (1, .ref (adL b0 0)), (2, .ref (adM b0 0)), (3, .int (i32 i))] []) : V p l e room_1 s m #[Value.ref b] below meth c D (geA b0) 4 (lw_Z below #[Value.ref b] s) (83 + ndC σ) ks (wl cy b0 σ μ) 396 [(0, .ref b), (1, .ref (adL b0 0)), (2, .ref (adM b0 0)), (3, .int (i32 i))] [] := by
  obtain ⟨q1, hf, hq, hA, hv1, hn1⟩ := kn_use (k_sees hs hk hv (xs (i32 i + 1).toNatClampNeg))
  obtain ⟨q2, gf, gq, gA⟩ := mo_use (m_sees hs hm (xs (i32 i + 1).toNatClampNeg))
  refine v_aload_n C 1 dL_396 rfl rfl ?_
  refine v_aload_n C 0 dL_397 rfl rfl ?_
  refine v_iload_n C 3 dL_398 rfl rfl ?_
  refine v_iconst C 1 dL_399 (by decide) ?_
  refine v_iadd C dL_400 ?_
  refine ls_ald C hX hbl hbA (lin 1 (by omega) hL) dL_401 ?_
  refine lc_callA C hz rfl [.int (xs (i32 i + 1).toNatClampNeg)] [] (c_J_sees (adL_OK b0) (xs (i32 i + 1).toNatClampNeg) σ hf) hY_J_sees ml_L_65 ⟨(Nat.le_of_ble_eq_true rfl), (Nat.le_of_ble_eq_true rfl)⟩ ⟨(show 83 + ndC σ + 5 ≤ 600000 by omega), (show ks + 104 ≤ 7302250 by omega)⟩ rfl rfl (Nat.le_of_ble_eq_true rfl) dL_402 ?_
  refine v_aload_n C 2 dL_405 rfl rfl ?_
  refine v_aload_n C 0 dL_406 rfl rfl ?_
  refine v_iload_n C 3 dL_407 rfl rfl ?_
  refine v_iconst C 1 dL_408 (by decide) ?_
  refine v_iadd C dL_409 ?_
  refine ls_ald C hX hbl hbA (lin 1 (by omega) hL) dL_410 ?_
  refine lm_call C [.int (xs (i32 i + 1).toNatClampNeg)] [.int q1.1] (c_sees (adC_inj (adM_C b0)) (xs (i32 i + 1).toNatClampNeg) μ gf) hY_sees ml_L_68 ⟨(Nat.le_of_ble_eq_true rfl), (Nat.le_of_ble_eq_true rfl)⟩ ⟨(show 83 + ndC q1.2 ≤ 600000 by omega), (show ks + 104 ≤ 7302250 by omega)⟩ rfl rfl (Nat.le_of_ble_eq_true rfl) dL_411 ?_
  exact v_icmp_eq C 514 dL_414 (by decide) (fun _ => K _ _ _ _ (s_sees hs (xs (i32 i + 1).toNatClampNeg)) hA hv1 gA (by omega) (by omega)) (fun c9 => absurd (hq.trans gq.symm) c9)
set_option maxHeartbeats 4000000 in
set_option maxRecDepth 20000 in
theorem lcase_13 {p : Program} {l : Launch} {e : Env} {s : State} {m : MethodId} {below : List Frame} {meth : Method} {c : Code} {D : va_G} {cy : Nat → ClassId} {b b0 L : Nat} {xs : Nat → Int32} {σ : CS} {μ : MS} {S : Sta} {ks : Nat} (C : vC p s m #[Value.ref b] meth c code 4 ret R_law D (cyT cy)) (hz : s.heap.size = b0) (hX : va_X b L xs s s.heap) (hbl : b < s.heap.size) (hbA : ¬ geA b0 b) (hL : L ≤ 2048) (i : Nat) (hi : i + 4 ≤ L) (hs : SOK S) (hk : KA σ S) (hv : KV σ) (hm : MA μ S) (hc : ndC σ ≤ 20000) (hks : ks ≤ 7000000) (K : ∀ (S' : Sta) (σ' : CS) (μ' : MS) (ks' : Nat), SOK S' → KA σ' S' → KV σ' → MA μ' S' → ndC σ' ≤ ndC σ + 22 → ks' ≤ ks + 1100 → V p l e room_1 s m #[Value.ref b] below meth c D (geA b0) 4 (lw_Z below #[Value.ref b] s) (83 + ndC σ') ks' (wl cy b0 σ' μ') 514 [(0, .ref b), (1, .ref (adL b0 0)), (2, .ref (adM b0 0)), (3, .int (i32 i))] []) : V p l e room_1 s m #[Value.ref b] below meth c D (geA b0) 4 (lw_Z below #[Value.ref b] s) (83 + ndC σ) ks (wl cy b0 σ μ) 419 [(0, .ref b), (1, .ref (adL b0 0)), (2, .ref (adM b0 0)), (3, .int (i32 i))] [] := by
  obtain ⟨q1, hf, hq, hA, hv1, hn1⟩ := kq_use (KV_KO hv (k_forget hk))
  obtain ⟨q2, gf, gq, gA⟩ := mo_use (m_forget hs hm)
  refine v_aload_n C 1 dL_419 rfl rfl ?_
  refine lc_callV C hz rfl [] [] (c_J_forget (adL_OK b0) σ hf) hn1 hY_J_forget ml_L_69 ⟨(Nat.le_of_ble_eq_true rfl), (Nat.le_of_ble_eq_true rfl)⟩ ⟨(show 83 + ndC σ ≤ 600000 by omega), (show ks ≤ 7302250 by omega)⟩ rfl rfl (Nat.le_of_ble_eq_true rfl) dL_420 ?_
  refine v_aload_n C 2 dL_423 rfl rfl ?_
  refine lm_call C [] [.int q1.1] (c_forget (adC_inj (adM_C b0)) μ gf) hY_forget ml_L_72 ⟨(Nat.le_of_ble_eq_true rfl), (Nat.le_of_ble_eq_true rfl)⟩ ⟨(show 83 + ndC q1.2 ≤ 600000 by omega), (show ks ≤ 7302250 by omega)⟩ rfl rfl (Nat.le_of_ble_eq_true rfl) dL_424 ?_
  exact v_icmp_eq C 514 dL_427 (by decide) (fun _ => K _ _ _ _ (s_forget hs) hA hv1 gA (by omega) (by omega)) (fun c9 => absurd (hq.trans gq.symm) c9)
set_option maxHeartbeats 4000000 in
set_option maxRecDepth 20000 in
theorem lcase_14 {p : Program} {l : Launch} {e : Env} {s : State} {m : MethodId} {below : List Frame} {meth : Method} {c : Code} {D : va_G} {cy : Nat → ClassId} {b b0 L : Nat} {xs : Nat → Int32} {σ : CS} {μ : MS} {S : Sta} {ks : Nat} (C : vC p s m #[Value.ref b] meth c code 4 ret R_law D (cyT cy)) (hz : s.heap.size = b0) (hX : va_X b L xs s s.heap) (hbl : b < s.heap.size) (hbA : ¬ geA b0 b) (hL : L ≤ 2048) (i : Nat) (hi : i + 4 ≤ L) (hs : SOK S) (hk : KA σ S) (hv : KV σ) (hm : MA μ S) (hc : ndC σ ≤ 20000) (hks : ks ≤ 7000000) (K : ∀ (S' : Sta) (σ' : CS) (μ' : MS) (ks' : Nat), SOK S' → KA σ' S' → KV σ' → MA μ' S' → ndC σ' ≤ ndC σ + 22 → ks' ≤ ks + 1100 → V p l e room_1 s m #[Value.ref b] below meth c D (geA b0) 4 (lw_Z below #[Value.ref b] s) (83 + ndC σ') ks' (wl cy b0 σ' μ') 514 [(0, .ref b), (1, .ref (adL b0 0)), (2, .ref (adM b0 0)), (3, .int (i32 i))] []) : V p l e room_1 s m #[Value.ref b] below meth c D (geA b0) 4 (lw_Z below #[Value.ref b] s) (83 + ndC σ) ks (wl cy b0 σ μ) 432 [(0, .ref b), (1, .ref (adL b0 0)), (2, .ref (adM b0 0)), (3, .int (i32 i))] [] := by
  obtain ⟨q1, hf, hq, hA, hv1, hn1⟩ := kq_use (KV_KO hv (k_unseen hs hk))
  obtain ⟨q2, gf, gq, gA⟩ := mo_use (m_unseen hs hm)
  refine v_aload_n C 1 dL_432 rfl rfl ?_
  refine lc_callV C hz rfl [] [] (c_J_unseen (adL_OK b0) σ hf) hn1 hY_J_unseen ml_L_73 ⟨(Nat.le_of_ble_eq_true rfl), (Nat.le_of_ble_eq_true rfl)⟩ ⟨(show 83 + ndC σ ≤ 600000 by omega), (show ks ≤ 7302250 by omega)⟩ rfl rfl (Nat.le_of_ble_eq_true rfl) dL_433 ?_
  refine v_aload_n C 2 dL_436 rfl rfl ?_
  refine lm_call C [] [.int q1.1] (c_unseen (adC_inj (adM_C b0)) μ gf) hY_unseen ml_L_76 ⟨(Nat.le_of_ble_eq_true rfl), (Nat.le_of_ble_eq_true rfl)⟩ ⟨(show 83 + ndC q1.2 ≤ 600000 by omega), (show ks ≤ 7302250 by omega)⟩ rfl rfl (Nat.le_of_ble_eq_true rfl) dL_437 ?_
  exact v_icmp_eq C 514 dL_440 (by decide) (fun _ => K _ _ _ _ hs hA hv1 gA (by omega) (by omega)) (fun c9 => absurd (hq.trans gq.symm) c9)
set_option maxHeartbeats 4000000 in
set_option maxRecDepth 20000 in
theorem lcase_15 {p : Program} {l : Launch} {e : Env} {s : State} {m : MethodId} {below : List Frame} {meth : Method} {c : Code} {D : va_G} {cy : Nat → ClassId} {b b0 L : Nat} {xs : Nat → Int32} {σ : CS} {μ : MS} {S : Sta} {ks : Nat} (C : vC p s m #[Value.ref b] meth c code 4 ret R_law D (cyT cy)) (hz : s.heap.size = b0) (hX : va_X b L xs s s.heap) (hbl : b < s.heap.size) (hbA : ¬ geA b0 b) (hL : L ≤ 2048) (i : Nat) (hi : i + 4 ≤ L) (hs : SOK S) (hk : KA σ S) (hv : KV σ) (hm : MA μ S) (hc : ndC σ ≤ 20000) (hks : ks ≤ 7000000) (K : ∀ (S' : Sta) (σ' : CS) (μ' : MS) (ks' : Nat), SOK S' → KA σ' S' → KV σ' → MA μ' S' → ndC σ' ≤ ndC σ + 22 → ks' ≤ ks + 1100 → V p l e room_1 s m #[Value.ref b] below meth c D (geA b0) 4 (lw_Z below #[Value.ref b] s) (83 + ndC σ') ks' (wl cy b0 σ' μ') 514 [(0, .ref b), (1, .ref (adL b0 0)), (2, .ref (adM b0 0)), (3, .int (i32 i))] []) : V p l e room_1 s m #[Value.ref b] below meth c D (geA b0) 4 (lw_Z below #[Value.ref b] s) (83 + ndC σ) ks (wl cy b0 σ μ) 445 [(0, .ref b), (1, .ref (adL b0 0)), (2, .ref (adM b0 0)), (3, .int (i32 i))] [] := by
  obtain ⟨q1, hf, hq, hA, hv1, hn1⟩ := kq_use (KV_KO hv (k_keep hk (xs (i32 i + 1).toNatClampNeg)))
  obtain ⟨q2, gf, gq, gA⟩ := mo_use (m_keep hs hm (xs (i32 i + 1).toNatClampNeg))
  refine v_aload_n C 1 dL_445 rfl rfl ?_
  refine v_aload_n C 0 dL_446 rfl rfl ?_
  refine v_iload_n C 3 dL_447 rfl rfl ?_
  refine v_iconst C 1 dL_448 (by decide) ?_
  refine v_iadd C dL_449 ?_
  refine ls_ald C hX hbl hbA (lin 1 (by omega) hL) dL_450 ?_
  refine lc_callV C hz rfl [.int (xs (i32 i + 1).toNatClampNeg)] [] (c_J_keep (adL_OK b0) (xs (i32 i + 1).toNatClampNeg) σ hf) hn1 hY_J_keep ml_L_77 ⟨(Nat.le_of_ble_eq_true rfl), (Nat.le_of_ble_eq_true rfl)⟩ ⟨(show 83 + ndC σ ≤ 600000 by omega), (show ks ≤ 7302250 by omega)⟩ rfl rfl (Nat.le_of_ble_eq_true rfl) dL_451 ?_
  refine v_aload_n C 2 dL_454 rfl rfl ?_
  refine v_aload_n C 0 dL_455 rfl rfl ?_
  refine v_iload_n C 3 dL_456 rfl rfl ?_
  refine v_iconst C 1 dL_457 (by decide) ?_
  refine v_iadd C dL_458 ?_
  refine ls_ald C hX hbl hbA (lin 1 (by omega) hL) dL_459 ?_
  refine lm_call C [.int (xs (i32 i + 1).toNatClampNeg)] [.int q1.1] (c_keep (adC_inj (adM_C b0)) (xs (i32 i + 1).toNatClampNeg) μ gf) hY_keep ml_L_80 ⟨(Nat.le_of_ble_eq_true rfl), (Nat.le_of_ble_eq_true rfl)⟩ ⟨(show 83 + ndC q1.2 ≤ 600000 by omega), (show ks ≤ 7302250 by omega)⟩ rfl rfl (Nat.le_of_ble_eq_true rfl) dL_460 ?_
  exact v_icmp_eq C 514 dL_463 (by decide) (fun _ => K _ _ _ _ (s_keep hs (xs (i32 i + 1).toNatClampNeg)) hA hv1 gA (by omega) (by omega)) (fun c9 => absurd (hq.trans gq.symm) c9)
set_option maxHeartbeats 4000000 in
set_option maxRecDepth 20000 in
theorem lcase_16 {p : Program} {l : Launch} {e : Env} {s : State} {m : MethodId} {below : List Frame} {meth : Method} {c : Code} {D : va_G} {cy : Nat → ClassId} {b b0 L : Nat} {xs : Nat → Int32} {σ : CS} {μ : MS} {S : Sta} {ks : Nat} (C : vC p s m #[Value.ref b] meth c code 4 ret R_law D (cyT cy)) (hz : s.heap.size = b0) (hX : va_X b L xs s s.heap) (hbl : b < s.heap.size) (hbA : ¬ geA b0 b) (hL : L ≤ 2048) (i : Nat) (hi : i + 4 ≤ L) (hs : SOK S) (hk : KA σ S) (hv : KV σ) (hm : MA μ S) (hc : ndC σ ≤ 20000) (hks : ks ≤ 7000000) (K : ∀ (S' : Sta) (σ' : CS) (μ' : MS) (ks' : Nat), SOK S' → KA σ' S' → KV σ' → MA μ' S' → ndC σ' ≤ ndC σ + 22 → ks' ≤ ks + 1100 → V p l e room_1 s m #[Value.ref b] below meth c D (geA b0) 4 (lw_Z below #[Value.ref b] s) (83 + ndC σ') ks' (wl cy b0 σ' μ') 514 [(0, .ref b), (1, .ref (adL b0 0)), (2, .ref (adM b0 0)), (3, .int (i32 i))] []) : V p l e room_1 s m #[Value.ref b] below meth c D (geA b0) 4 (lw_Z below #[Value.ref b] s) (83 + ndC σ) ks (wl cy b0 σ μ) 468 [(0, .ref b), (1, .ref (adL b0 0)), (2, .ref (adM b0 0)), (3, .int (i32 i))] [] := by
  obtain ⟨q1, hf, hq, hA, hv1, hn1⟩ := kq_use (KV_KO hv (k_back hk (xs (i32 i + 1).toNatClampNeg)))
  obtain ⟨q2, gf, gq, gA⟩ := mo_use (m_back hs hm (xs (i32 i + 1).toNatClampNeg))
  refine v_aload_n C 1 dL_468 rfl rfl ?_
  refine v_aload_n C 0 dL_469 rfl rfl ?_
  refine v_iload_n C 3 dL_470 rfl rfl ?_
  refine v_iconst C 1 dL_471 (by decide) ?_
  refine v_iadd C dL_472 ?_
  refine ls_ald C hX hbl hbA (lin 1 (by omega) hL) dL_473 ?_
  refine lc_callV C hz rfl [.int (xs (i32 i + 1).toNatClampNeg)] [] (c_J_back (adL_OK b0) (xs (i32 i + 1).toNatClampNeg) σ hf) hn1 hY_J_back ml_L_81 ⟨(Nat.le_of_ble_eq_true rfl), (Nat.le_of_ble_eq_true rfl)⟩ ⟨(show 83 + ndC σ ≤ 600000 by omega), (show ks ≤ 7302250 by omega)⟩ rfl rfl (Nat.le_of_ble_eq_true rfl) dL_474 ?_
  refine v_aload_n C 2 dL_477 rfl rfl ?_
  refine v_aload_n C 0 dL_478 rfl rfl ?_
  refine v_iload_n C 3 dL_479 rfl rfl ?_
  refine v_iconst C 1 dL_480 (by decide) ?_
  refine v_iadd C dL_481 ?_
  refine ls_ald C hX hbl hbA (lin 1 (by omega) hL) dL_482 ?_
  refine lm_call C [.int (xs (i32 i + 1).toNatClampNeg)] [.int q1.1] (c_back (adC_inj (adM_C b0)) (xs (i32 i + 1).toNatClampNeg) μ gf) hY_back ml_L_84 ⟨(Nat.le_of_ble_eq_true rfl), (Nat.le_of_ble_eq_true rfl)⟩ ⟨(show 83 + ndC q1.2 ≤ 600000 by omega), (show ks ≤ 7302250 by omega)⟩ rfl rfl (Nat.le_of_ble_eq_true rfl) dL_483 ?_
  exact v_icmp_eq C 514 dL_486 (by decide) (fun _ => K _ _ _ _ (s_back hs (xs (i32 i + 1).toNatClampNeg)) hA hv1 gA (by omega) (by omega)) (fun c9 => absurd (hq.trans gq.symm) c9)
set_option maxHeartbeats 4000000 in
set_option maxRecDepth 20000 in
theorem lcase_17 {p : Program} {l : Launch} {e : Env} {s : State} {m : MethodId} {below : List Frame} {meth : Method} {c : Code} {D : va_G} {cy : Nat → ClassId} {b b0 L : Nat} {xs : Nat → Int32} {σ : CS} {μ : MS} {S : Sta} {ks : Nat} (C : vC p s m #[Value.ref b] meth c code 4 ret R_law D (cyT cy)) (hz : s.heap.size = b0) (hX : va_X b L xs s s.heap) (hbl : b < s.heap.size) (hbA : ¬ geA b0 b) (hL : L ≤ 2048) (i : Nat) (hi : i + 4 ≤ L) (hs : SOK S) (hk : KA σ S) (hv : KV σ) (hm : MA μ S) (hc : ndC σ ≤ 20000) (hks : ks ≤ 7000000) (K : ∀ (S' : Sta) (σ' : CS) (μ' : MS) (ks' : Nat), SOK S' → KA σ' S' → KV σ' → MA μ' S' → ndC σ' ≤ ndC σ + 22 → ks' ≤ ks + 1100 → V p l e room_1 s m #[Value.ref b] below meth c D (geA b0) 4 (lw_Z below #[Value.ref b] s) (83 + ndC σ') ks' (wl cy b0 σ' μ') 514 [(0, .ref b), (1, .ref (adL b0 0)), (2, .ref (adM b0 0)), (3, .int (i32 i))] []) : V p l e room_1 s m #[Value.ref b] below meth c D (geA b0) 4 (lw_Z below #[Value.ref b] s) (83 + ndC σ) ks (wl cy b0 σ μ) 491 [(0, .ref b), (1, .ref (adL b0 0)), (2, .ref (adM b0 0)), (3, .int (i32 i))] [] := by
  obtain ⟨q1, hf, hq, hA, hv1, hn1⟩ := kq_use (KV_KO hv (k_count hk (xs (i32 i + 1).toNatClampNeg)))
  obtain ⟨q2, gf, gq, gA⟩ := mo_use (m_count hm (xs (i32 i + 1).toNatClampNeg))
  refine v_aload_n C 1 dL_491 rfl rfl ?_
  refine v_aload_n C 0 dL_492 rfl rfl ?_
  refine v_iload_n C 3 dL_493 rfl rfl ?_
  refine v_iconst C 1 dL_494 (by decide) ?_
  refine v_iadd C dL_495 ?_
  refine ls_ald C hX hbl hbA (lin 1 (by omega) hL) dL_496 ?_
  refine lc_callV C hz rfl [.int (xs (i32 i + 1).toNatClampNeg)] [] (c_J_count (adL_OK b0) (xs (i32 i + 1).toNatClampNeg) σ hf) hn1 hY_J_count ml_L_85 ⟨(Nat.le_of_ble_eq_true rfl), (Nat.le_of_ble_eq_true rfl)⟩ ⟨(show 83 + ndC σ ≤ 600000 by omega), (show ks ≤ 7302250 by omega)⟩ rfl rfl (Nat.le_of_ble_eq_true rfl) dL_497 ?_
  refine v_aload_n C 2 dL_500 rfl rfl ?_
  refine v_aload_n C 0 dL_501 rfl rfl ?_
  refine v_iload_n C 3 dL_502 rfl rfl ?_
  refine v_iconst C 1 dL_503 (by decide) ?_
  refine v_iadd C dL_504 ?_
  refine ls_ald C hX hbl hbA (lin 1 (by omega) hL) dL_505 ?_
  refine lm_call C [.int (xs (i32 i + 1).toNatClampNeg)] [.int q1.1] (c_count (adC_inj (adM_C b0)) (xs (i32 i + 1).toNatClampNeg) μ gf) hY_count ml_L_88 ⟨(Nat.le_of_ble_eq_true rfl), (Nat.le_of_ble_eq_true rfl)⟩ ⟨(show 83 + ndC q1.2 ≤ 600000 by omega), (show ks ≤ 7302250 by omega)⟩ rfl rfl (Nat.le_of_ble_eq_true rfl) dL_506 ?_
  exact v_icmp_eq C 514 dL_509 (by decide) (fun _ => K _ _ _ _ hs hA hv1 gA (by omega) (by omega)) (fun c9 => absurd (hq.trans gq.symm) c9)

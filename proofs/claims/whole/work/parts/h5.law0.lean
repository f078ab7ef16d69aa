/-! THE CLAIM OUT OF ONE WALK OF THE LAW'S BODY. Your part is whole_start (and what it stands on); all else here is the same for every law, but numbers. -/
def R_law : String := "JudgedTermsLaw"
def lw_P (b : Addr) (xs : List Int32) (args : Array Value) (s : State) : Prop := args = #[.ref b] ∧ s.IntsAt b xs ∧ xs.length ≤ 2048 ∧ (Jvm.Cond.and given_1 narrow_1).before args s = true
def lw_Q (_ : Array Value) (s : State) (o : Outcome) (t : State) : Prop := o = .returned (some (.int 1)) ∧ Framed s o t [] 600000 7302250
def lw_Z (below : List Frame) (a : Array Value) (s : State) : State → Prop := fun t => ∃ o, t.status = .running ∧ Ended t below o ∧ lw_Q a s o t
/-- the law's own end, with 1 on the stack, nothing written that was there before, its room as the claim has it -/
theorem lw_ret {p : Program} {l : Launch} {e : Env} {s : State} {m : MethodId} {below : List Frame} {meth : Method} {c : Code} {b : Nat} (hx : p.tables.exec = Jvm.exec) (hb : c.code = code) (hr : meth.sig.returnType = ret) (hlocks : meth.locks = false) {pc : Nat} {H : Heap} {ls : Array Slot} (hdg : decode code pc = .ok (.ireturn, 1)) : W p l e room_1 s m #[Value.ref b] below meth c H [] 600000 7302250 (lw_Z below #[Value.ref b] s) (F0 m pc ls [.int 1]) := by
  intro T hT X
  obtain ⟨fs, hret, hrun, hended, hW, hframe⟩ := X.leave (v := some (.int 1)) (hlocks := hlocks) (fun h => by rw [hr] at h; cases h)
  have hmeth' : T.vm.method? m = some meth := X.method'
  refine ⟨T.setFrames fs, ?_, .returned (some (.int 1)), hrun, hended, rfl, ⟨_, rfl⟩, hW, hframe⟩
  jvm_step X.here [X.here.top, hx, hb, hdg, hmeth', hr, ret, narrow_b1]
  (try refine ⟨rfl, ?_⟩); (try refine ⟨rfl, ?_⟩)
  first | (intro acts; rw [hret _ acts rfl rfl rfl]) | rw [hret _ _ rfl rfl rfl]
  exact Steps.refl _
/-- what holds at the law's entry: the machine, the code, the tables' words (any of lw_tbl by 'hts w (by decide +kernel)'), the script of L ints xs at the cell b, what the Statement gives of the start (any of its parts by flat_of_before) -/
def lw_At (p : Program) (s : State) (m : MethodId) (meth : Method) (c : Code) (b L : Nat) (xs : Nat → Int32) : Prop :=
  p.tables.exec = Jvm.exec ∧ c.code = code ∧ meth.sig.returnType = ret ∧ c.maxLocals = 4 ∧ s.vm.findClass R_law = some m.cls ∧ (∀ w ∈ lw_tbl, w.before #[Value.ref b] s = true) ∧ va_X b L xs s s.heap ∧ b < s.heap.size ∧ meth.locks = false ∧ (Jvm.Cond.and given_1 narrow_1).before #[Value.ref b] s = true

/-- the addresses of the class's cells and of the reference's, from the first new one on -/
def adL (b0 : Nat) : Nat → Nat := fun j => if j < 49 then b0 + j else b0 + j + 34
def adM (b0 : Nat) : Nat → Nat := fun j => b0 + 49 + j
theorem adL_lo {b0 j : Nat} (h : j < 49) : adL b0 j = b0 + j := if_pos h
theorem adL_hi (b0 i : Nat) : adL b0 (49 + i) = b0 + 83 + i := by
  unfold adL
  rw [if_neg (by omega)]; omega
theorem adL_OK (b0 : Nat) : adOK (adL b0) := by
  refine ⟨fun i j h => ?_, fun i => ?_⟩
  · unfold adL at h
    split at h <;> split at h <;> omega
  · rw [adL_hi, show adL b0 49 = b0 + 83 from adL_hi b0 0]
theorem adM_C (b0 : Nat) : adC (adM b0) := fun i => by unfold adM; omega
/-- both worlds -/
def wl (cy : Nat → ClassId) (b0 : Nat) (σ : CS) (μ : MS) : va_W := wc cy (adL b0) σ ++ wm cy (adM b0) μ
theorem wc_length (cy : Nat → ClassId) (ad : Nat → Nat) (σ : CS) : (wc cy ad σ).length = 49 + ndC σ := by simp [wc]
theorem wm_key {cy : Nat → ClassId} {ad : Nat → Nat} {μ : MS} {k : Nat} {q : Nat × va_E} (hq : (wm cy ad μ)[k]? = some q) : k < 34 ∧ q.1 = ad k := by
  have hk : k < 34 := by
    have := (List.getElem?_eq_some_iff.mp hq).1
    simpa [wm] using this
  rw [wm_at cy ad μ hk] at hq
  exact ⟨hk, by rw [← Option.some.inj hq]⟩
theorem wl_1 {D : va_G} {cy : Nat → ClassId} {b0 : Nat} {σ : CS} {μ : MS} {H : Heap} (h : va_P D vwCl (wl cy b0 σ μ) H) : va_P D vwCl (wc cy (adL b0) σ) H := fun k q hk => h k q (by
  unfold wl
  rw [List.getElem?_append_left (by have := (List.getElem?_eq_some_iff.mp hk).1; exact this)]; exact hk)
theorem wl_2 {D : va_G} {cy : Nat → ClassId} {b0 : Nat} {σ : CS} {μ : MS} {H : Heap} (h : va_P D vwCl (wl cy b0 σ μ) H) : va_P D vwCl (wm cy (adM b0) μ) H := fun k q hk => h (49 + ndC σ + k) q (by
  unfold wl
  rw [List.getElem?_append_right (by rw [wc_length]; omega), wc_length, show 49 + ndC σ + k - (49 + ndC σ) = k by omega]; exact hk)
theorem wl_key {cy : Nat → ClassId} {b0 : Nat} {σ : CS} {μ : MS} {k : Nat} {q : Nat × va_E} (hq : (wl cy b0 σ μ)[k]? = some q) : (k < 49 + ndC σ ∧ q.1 = adL b0 k) ∨ ∃ j, k = 49 + ndC σ + j ∧ j < 34 ∧ q.1 = adM b0 j := by
  unfold wl at hq
  by_cases hk : k < 49 + ndC σ
  · rw [List.getElem?_append_left (by rw [wc_length]; exact hk)] at hq
    exact Or.inl (wc_len cy _ σ hq)
  · rw [List.getElem?_append_right (by rw [wc_length]; omega), wc_length] at hq
    obtain ⟨a1, a2⟩ := wm_key hq
    exact Or.inr ⟨k - (49 + ndC σ), by omega, a1, a2⟩
theorem adL_M {b0 i j : Nat} (hj : j < 34) : adL b0 i ≠ adM b0 j := by
  unfold adL adM
  split <;> omega
theorem wl_D (cy : Nat → ClassId) (b0 : Nat) (σ : CS) (μ : MS) : va_D (geA b0) (wl cy b0 σ μ) := by
  refine ⟨fun i j p q hp hq e => ?_, fun k q hq => ?_⟩
  · rcases wl_key hp with ⟨a1, a2⟩ | ⟨i', rfl, a1, a2⟩
    · rcases wl_key hq with ⟨c1, c2⟩ | ⟨j', rfl, c1, c2⟩
      · exact (adL_OK b0).1 i j (by rw [← a2, ← c2]; exact e)
      · exact absurd (a2.symm.trans (e.trans c2)) (adL_M c1)
    · rcases wl_key hq with ⟨c1, c2⟩ | ⟨j', rfl, c1, c2⟩
      · exact absurd (c2.symm.trans (e.symm.trans a2)) (adL_M a1)
      · have := a2.symm.trans (e.trans c2)
        unfold adM at this
        omega
  · show b0 ≤ q.1
    rcases wl_key hq with ⟨a1, a2⟩ | ⟨j, _, a1, a2⟩
    · rw [a2]; unfold adL; split <;> omega
    · rw [a2]; unfold adM; omega
/-- the heap is just as large as both worlds say -/
theorem wl_size {D : va_G} {cy : Nat → ClassId} {b0 : Nat} {σ : CS} {μ : MS} {H : Heap} (h : va_P D vwCl (wl cy b0 σ μ) H) (hb : H.size ≤ b0 + (83 + ndC σ)) : H.size = adL b0 (49 + ndC σ) := by
  rw [adL_hi]
  have h1 := (wl_2 h 33 _ (wm_at cy (adM b0) μ (by decide))).lt
  have h2 : adM b0 33 = b0 + 82 := by unfold adM; omega
  by_cases h0 : ndC σ = 0
  · simp only at h1
    omega
  · have h3 := wc_last (wl_1 h) (show 49 + (ndC σ - 1) < 49 + ndC σ by omega)
    rw [adL_hi] at h3
    omega
section LW
variable {p : Program} {l : Launch} {e : Env} {R : Room} {s : State} {m : MethodId} {args : Array Value} {below : List Frame} {meth : Method} {c : Code} {Q : State → Prop} {cc : ByteArray} {nL kc ks pc : Nat} {ret : Option FieldType} {own : String} {D : va_G} {ls : List (Nat × Value)} {st : List Value} {cy : Nat → ClassId} {b0 : Nat} {σ : CS} {μ : MS}
theorem inC_ge {q : Nat} (h : inC (adL b0) q) : geA b0 q := by
  show b0 ≤ q
  rcases h with ⟨j, hj, rfl⟩ | h
  · rw [adL_lo hj]; omega
  · rw [show adL b0 49 = b0 + 83 from adL_hi b0 0] at h; omega
/-- a call of the class: the reference's world stays -/
theorem lc_run {mc ms kc' : Nat} {rest : List Value} {r : Option Value} {σ' : CS} {Qa : State → Outcome → State → Prop} (hz : s.heap.size = b0) (hn : kc = 83 + ndC σ) (hn' : kc' = 83 + ndC σ') (hQ : ∀ st v t (T' : State), Qa st (.returned v) t → st.heap.size = adL b0 (49 + ndC σ) → t.heap.size ≤ b0 + (kc + mc) → v = r ∧ va_P D vwCl (wc cy (adL b0) σ') t.heap ∧ t.heap.size = adL b0 (49 + ndC σ') ∧ va_F (inC (adL b0)) st t)
    (hr : ∀ (H : Heap) (locs : List Loc) (la : Array Slot), H.size = adL b0 (49 + ndC σ) → va_P D vwCl (wc cy (adL b0) σ) H → lv_has la nL ls → va_Run p l e R s m args below meth c H locs kc ks mc ms (F0 m pc la st) rest Qa (inC (adL b0))) (k : V p l e R s m args below meth c D (geA b0) nL Q kc' (ks + ms) (wl cy b0 σ' μ) (pc + 3) ls (r.toList ++ rest)) : V p l e R s m args below meth c D (geA b0) nL Q kc ks (wl cy b0 σ μ) pc ls st := fun H locs la hP hD hS hl => by
  intro T hT X
  have hb : H.size = adL b0 (49 + ndC σ) := wl_size hP (by have := X.heapSize; rw [hT, hz, hn] at this; exact this)
  obtain ⟨v, st₀, t, T', L, h0, X', hL, e1, e2, hq, stp⟩ := hr H locs la hb (wl_1 hP) hl T hT X
  obtain ⟨hv, hp, hs, hz9, hk⟩ := hQ st₀ v t T' hq (by rw [h0]; exact hb) (by have := X'.heapSize; rw [e1, hz] at this; exact this)
  subst hv
  rw [h0] at hz9 hk
  have X2 : Stand p l e R s m args below meth c T' (locs ++ L) kc' (ks + ms) := { X' with same := ⟨X'.same.1, X'.same.2.1, (by
    have e3 : T'.heap.size = s.heap.size + kc' := by rw [e1, hs, hn', hz, adL_hi]; omega
    show T'.heap.size ≤ s.heap.size + kc'
    omega), X'.same.2.2.2⟩ }
  have hm : va_P D vwCl (wm cy (adM b0) μ) T'.heap := (wl_2 hP).kept (fun k x hx => by
    obtain ⟨a1, a2⟩ := wm_key hx
    rw [e1]
    refine hk x.1 ((wl_2 hP k x hx).lt) (fun g => ?_)
    rw [a2] at g
    rcases g with ⟨j, hj, g⟩ | g
    · exact adL_M a1 g.symm
    · rw [show adL b0 49 = b0 + 83 from adL_hi b0 0] at g
      unfold adM at g
      omega)
  obtain ⟨t2, a1, b1⟩ := k T'.heap (locs ++ L) la (va_P.app (by rw [e1]; exact hp) hm) (wl_D cy b0 σ' μ) ⟨Nat.le_trans hS.1 (by rw [e1]; exact hz9), fun q h1 h2 => by rw [e1, hk q (Nat.lt_of_lt_of_le h1 hS.1) (fun g => h2 (inC_ge g))]; exact hS.2.1 q h1 h2, fun q hq => by
      rcases List.mem_append.mp hq with h | h
      · exact hS.2.2 q h
      · exact inC_ge (hL q h)⟩ hl T' rfl X2
  exact ⟨t2, stp t2 a1, b1⟩
/-- a call of the reference: the class's world stays -/
theorem lm_run {rest : List Value} {r : Option Value} {μ' : MS} {a : Array Value} (hr : ∀ (H : Heap) (locs : List Loc) (la : Array Slot), va_P D vwCl (wm cy (adM b0) μ) H → lv_has la nL ls → va_Run p l e R s m args below meth c H locs kc ks 0 0 (F0 m pc la st) rest (vQ D (inAd (adM b0)) r (wm cy (adM b0) μ') a) (inAd (adM b0))) (k : V p l e R s m args below meth c D (geA b0) nL Q kc ks (wl cy b0 σ μ') (pc + 3) ls (r.toList ++ rest)) : V p l e R s m args below meth c D (geA b0) nL Q kc ks (wl cy b0 σ μ) pc ls st := fun H locs la hP hD hS hl => by
  intro T hT X
  obtain ⟨v, st₀, t, T', L, h0, X', hL, e1, e2, ⟨hv, hp, hz, hk⟩, stp⟩ := hr H locs la (wl_2 hP) hl T hT X
  cases hv
  rw [h0] at hz hk
  have hge : ∀ q, inAd (adM b0) q → geA b0 q := fun q ⟨j, _, g⟩ => by
    show b0 ≤ q
    rw [g]; unfold adM; omega
  have hc : va_P D vwCl (wc cy (adL b0) σ) T'.heap := (wl_1 hP).kept (fun k x hx => by
    obtain ⟨a1, a2⟩ := wc_len cy _ σ hx
    rw [e1]
    refine hk x.1 ((wl_1 hP k x hx).lt) (fun g => ?_)
    rw [a2] at g
    obtain ⟨j, hj, g⟩ := g
    exact adL_M hj g)
  obtain ⟨t2, a1, b1⟩ := k T'.heap (locs ++ L) la (va_P.app hc (by rw [e1]; exact hp)) (wl_D cy b0 σ μ') ⟨Nat.le_trans hS.1 (by rw [e1]; exact hz), fun q h1 h2 => by rw [e1, hk q (Nat.lt_of_lt_of_le h1 hS.1) (fun g => h2 (hge q g))]; exact hS.2.1 q h1 h2, fun q hq => by
      rcases List.mem_append.mp hq with h | h
      · exact hS.2.2 q h
      · exact hge _ (hL q h)⟩ hl T' rfl X'
  exact ⟨t2, stp t2 a1, b1⟩
/-- a method of the class that makes nothing -/
theorem lc_callV (C : vC p s m args meth c cc nL ret own D (cyT cy)) (hz : s.heap.size = b0) (hn : kc = 83 + ndC σ) {y : MethodName} {bytes : ByteArray} {maxL n idx fr lo : Nat} {r : Option Value} {σ' : CS} {ret' : Option FieldType} (As rest : List Value) (hM : MV l D (cyT cy) (inC (adL b0)) y bytes maxL ret' fr lo 0 0 (.ref (adL b0 0) :: As) (wc cy (adL b0) σ) r (wc cy (adL b0) σ')) (he : ndC σ' = ndC σ) (hY : vY RX10 y bytes maxL ret' n) (hlk : Cond.methodLink own idx y ∈ tg) (hR : fr + 1 ≤ R.frames ∧ 8 + (maxL + 11) + lo ≤ R.locals) (hf : kc ≤ R.cells ∧ ks ≤ R.slots) (hnn : As.length = n) (hst : st = As.reverse ++ .ref (adL b0 0) :: rest) (hcat : (rest.map fun v => v.category).sum ≤ 8) (d : decode cc pc = .ok (.invokevirtual idx, 3)) (k : V p l e R s m args below meth c D (geA b0) nL Q (83 + ndC σ') ks (wl cy b0 σ' μ) (pc + 3) ls (r.toList ++ rest)) : V p l e R s m args below meth c D (geA b0) nL Q kc ks (wl cy b0 σ μ) pc ls st := by
  obtain ⟨y1, y2, y3, y4, y5, y6, y7, y8⟩ := hY
  subst hst
  refine lc_run (mc := 0) (ms := 0) (rest := rest) (r := r) (σ' := σ') (Qa := vQ D (inC (adL b0)) r (wc cy (adL b0) σ') (Value.ref (adL b0 0) :: As).toArray) hz hn rfl (fun st₀ v t T' hq h1 h2 => ?_) (fun H locs la hb hP hl => ?_) k
  · obtain ⟨hv, hp, hF⟩ := hq
    cases hv
    refine ⟨rfl, hp, ?_, hF⟩
    have hg := hF.1
    rw [h1, adL_hi] at hg
    rw [adL_hi, he]
    omega
  · refine va_runV (Ts := tg) (C := RX10) (n := n) (bytes := bytes) (maxL := maxL) (ret := ret') ⟨C.1, C.2.1, C.2.2.1, C.2.2.2.1, C.2.2.2.2.1⟩ hM (cwV n C.2.2.2.2.1 ?_ rfl rfl rfl ⟨y5, y6, y7, y8⟩ hR) ⟨?_, ?_, ?_⟩ rfl hnn hl.1 rfl (lv_room hcat) d hf
    · intro w hw
      rcases List.mem_append.mp hw with h | h
      · simp only [List.mem_cons, List.not_mem_nil, or_false] at h
        rcases h with rfl | rfl | rfl | rfl
        · exact tg_w hlk
        · exact tg_w y1
        · exact tg_w y2
        · exact tg_w y3
      · exact tg_code y4 w h
    · intro a U g mk q
      obtain ⟨q0, qP, qK, qN⟩ := q
      exact ⟨q0, qP, va_K.moved (u := U) (U := U.calling g mk a) (Vm.Alike.refl U.vm) qK, NW.same (u := U) (U := U.calling g mk a) rfl qN⟩
    · exact va_recv C.2.2.2.2.2.2.2.1 hP (show vwCl[10]? = some (RX10, TX10, 9) from rfl) (wc_obj cy (adL b0) σ (okS σ 0 (by decide) rfl) (by decide))
    · intro U hU hW
      exact ⟨rfl, by rw [hU]; exact hP, va_K.moved hW.alike C.2.2.2.2.2.2.2.1, NW.warm hW C.2.2.2.2.2.2.2.2⟩
/-- a method of the class that makes cells -/
theorem lc_callA (C : vC p s m args meth c cc nL ret own D (cyT cy)) (hz : s.heap.size = b0) (hn : kc = 83 + ndC σ) {y : MethodName} {bytes : ByteArray} {maxL n idx fr lo mc ms : Nat} {r : Option Value} {σ' : CS} {ret' : Option FieldType} (As rest : List Value) (hM : MVA l D cy (adL b0) y bytes maxL ret' fr lo mc ms (.ref (adL b0 0) :: As) σ r σ') (hY : vY RX10 y bytes maxL ret' n) (hlk : Cond.methodLink own idx y ∈ tg) (hR : fr + 1 ≤ R.frames ∧ 8 + (maxL + 11) + lo ≤ R.locals) (hf : kc + mc ≤ R.cells ∧ ks + ms ≤ R.slots) (hnn : As.length = n) (hst : st = As.reverse ++ .ref (adL b0 0) :: rest) (hcat : (rest.map fun v => v.category).sum ≤ 8) (d : decode cc pc = .ok (.invokevirtual idx, 3)) (k : V p l e R s m args below meth c D (geA b0) nL Q (83 + ndC σ') (ks + ms) (wl cy b0 σ' μ) (pc + 3) ls (r.toList ++ rest)) : V p l e R s m args below meth c D (geA b0) nL Q kc ks (wl cy b0 σ μ) pc ls st := by
  obtain ⟨y1, y2, y3, y4, y5, y6, y7, y8⟩ := hY
  subst hst
  refine lc_run (mc := mc) (ms := ms) (rest := rest) (r := r) (σ' := σ') (Qa := vQA D cy (adL b0) r σ' (Value.ref (adL b0 0) :: As).toArray) hz hn rfl (fun st₀ v t T' hq h1 h2 => ?_) (fun H locs la hb hP hl => ?_) k
  · obtain ⟨hv, hp, hs, hF⟩ := hq
    cases hv
    exact ⟨rfl, hp, hs, hF⟩
  · refine va_runV (Ts := tg) (C := RX10) (n := n) (bytes := bytes) (maxL := maxL) (ret := ret') ⟨C.1, C.2.1, C.2.2.1, C.2.2.2.1, C.2.2.2.2.1⟩ hM (cwV n C.2.2.2.2.1 ?_ rfl rfl rfl ⟨y5, y6, y7, y8⟩ hR) ⟨r_pc, ?_, ?_⟩ rfl hnn hl.1 rfl (lv_room hcat) d hf
    · intro w hw
      rcases List.mem_append.mp hw with h | h
      · simp only [List.mem_cons, List.not_mem_nil, or_false] at h
        rcases h with rfl | rfl | rfl | rfl
        · exact tg_w hlk
        · exact tg_w y1
        · exact tg_w y2
        · exact tg_w y3
      · exact tg_code y4 w h
    · exact va_recv C.2.2.2.2.2.2.2.1 hP (show vwCl[10]? = some (RX10, TX10, 9) from rfl) (wc_obj cy (adL b0) σ (okS σ 0 (by decide) rfl) (by decide))
    · intro U hU hW
      exact ⟨rfl, by rw [hU]; exact hP, va_K.moved hW.alike C.2.2.2.2.2.2.2.1, NW.warm hW C.2.2.2.2.2.2.2.2, by rw [hU]; exact hb⟩
/-- a method of the reference -/
theorem lm_call (C : vC p s m args meth c cc nL ret own D (cyT cy)) {y : MethodName} {bytes : ByteArray} {maxL n idx fr lo : Nat} {r : Option Value} {μ' : MS} {ret' : Option FieldType} (As rest : List Value) (hM : MV l D (cyT cy) (inAd (adM b0)) y bytes maxL ret' fr lo 0 0 (.ref (adM b0 0) :: As) (wm cy (adM b0) μ) r (wm cy (adM b0) μ')) (hY : vY RX11 y bytes maxL ret' n) (hlk : Cond.methodLink own idx y ∈ tg) (hR : fr + 1 ≤ R.frames ∧ 8 + (maxL + 11) + lo ≤ R.locals) (hf : kc ≤ R.cells ∧ ks ≤ R.slots) (hnn : As.length = n) (hst : st = As.reverse ++ .ref (adM b0 0) :: rest) (hcat : (rest.map fun v => v.category).sum ≤ 8) (d : decode cc pc = .ok (.invokevirtual idx, 3)) (k : V p l e R s m args below meth c D (geA b0) nL Q kc ks (wl cy b0 σ μ') (pc + 3) ls (r.toList ++ rest)) : V p l e R s m args below meth c D (geA b0) nL Q kc ks (wl cy b0 σ μ) pc ls st := by
  obtain ⟨y1, y2, y3, y4, y5, y6, y7, y8⟩ := hY
  subst hst
  refine lm_run (rest := rest) (r := r) (μ' := μ') (a := (Value.ref (adM b0 0) :: As).toArray) (fun H locs la hP hl => ?_) k
  refine va_runV (Ts := tg) (C := RX11) (n := n) (bytes := bytes) (maxL := maxL) (ret := ret') ⟨C.1, C.2.1, C.2.2.1, C.2.2.2.1, C.2.2.2.2.1⟩ hM (cwV n C.2.2.2.2.1 ?_ rfl rfl rfl ⟨y5, y6, y7, y8⟩ hR) ⟨?_, ?_, ?_⟩ rfl hnn hl.1 rfl (lv_room hcat) d hf
  · intro w hw
    rcases List.mem_append.mp hw with h | h
    · simp only [List.mem_cons, List.not_mem_nil, or_false] at h
      rcases h with rfl | rfl | rfl | rfl
      · exact tg_w hlk
      · exact tg_w y1
      · exact tg_w y2
      · exact tg_w y3
    · exact tg_code y4 w h
  · intro a U g mk q
    obtain ⟨q0, qP, qK, qN⟩ := q
    exact ⟨q0, qP, va_K.moved (u := U) (U := U.calling g mk a) (Vm.Alike.refl U.vm) qK, NW.same (u := U) (U := U.calling g mk a) rfl qN⟩
  · exact va_recv C.2.2.2.2.2.2.2.1 hP (show vwCl[11]? = some (RX11, TX11, 62) from rfl) (wm_at cy (adM b0) μ (j := 0) (by decide))
  · intro U hU hW
    exact ⟨rfl, by rw [hU]; exact hP, va_K.moved hW.alike C.2.2.2.2.2.2.2.1, NW.warm hW C.2.2.2.2.2.2.2.2⟩
/-- the script: its length, its ints -/
theorem ls_len (C : vC p s m args meth c cc nL ret own D (cyT cy)) {A : Nat → Prop} {ws : va_W} {b L : Nat} {xs : Nat → Int32} (hX : va_X b L xs s s.heap) (hbl : b < s.heap.size) (hbA : ¬ A b) (d : decode cc pc = .ok (.arraylength, 1)) (k : V p l e R s m args below meth c D A nL Q kc ks ws (pc + 1) ls (.int (i32 L) :: st)) : V p l e R s m args below meth c D A nL Q kc ks ws pc ls (.ref b :: st) := fun H locs la hP hD hS hl => va_slen C.1 C.2.1 hX hbl hbA hS d (k H locs la hP hD hS hl)
theorem ls_ald (C : vC p s m args meth c cc nL ret own D (cyT cy)) {A : Nat → Prop} {ws : va_W} {b L : Nat} {xs : Nat → Int32} {i : Int32} (hX : va_X b L xs s s.heap) (hbl : b < s.heap.size) (hbA : ¬ A b) (hin : vp_in i L) (d : decode cc pc = .ok (.iaload, 1)) (k : V p l e R s m args below meth c D A nL Q kc ks ws (pc + 1) ls (.int (xs i.toNatClampNeg) :: st)) : V p l e R s m args below meth c D A nL Q kc ks ws pc ls (.int i :: .ref b :: st) := fun H locs la hP hD hS hl => va_sld C.1 C.2.1 hX hbl hbA hS hin d (k H locs la hP hD hS hl)
end LW

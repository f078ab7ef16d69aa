theorem ad_atD {ad : Nat → Nat} (hA : adC ad) (a b : Nat) : ad (a + b) = ad a + b := by
  have h1 := hA a
  have h2 := hA (a + b)
  omega
section DL
variable {p : Program} {l : Launch} {e : Env} {R : Room} {s : State} {m : MethodId} {args : Array Value} {below : List Frame} {meth : Method} {c : Code} {Q : State → Prop} {cc : ByteArray} {nL kc ks pc n0 : Nat} {ret : Option FieldType} {own : String} {D : va_G} {ls : List (Nat × Value)} {st : List Value} {cy : Nat → ClassId} {ad : Nat → Nat} {σ : CS}
theorem rd_in (hA : adC ad) {b q : Nat} (h : ad b ≤ q) : geA (ad 0) q := by
  have := hA b
  show ad 0 ≤ q
  omega
theorem rd_q (hA : adC ad) {q : Nat} {e : va_E} {H1 : Heap} (hP1 : va_P D vwCl (wd cy ad σ ++ [(q, e)]) H1) (hD1 : va_D (geA (ad 0)) (wd cy ad σ ++ [(q, e)])) (hb : H1.size ≤ ad (ndC σ) + 1) : q = ad (ndC σ) := by
  have hlen : (wd cy ad σ).length = ndC σ := by simp [wd]
  have hlast : (wd cy ad σ ++ [(q, e)])[ndC σ]? = some (q, e) := by
    rw [List.getElem?_append_right (by omega)]; simp [hlen]
  have hlt : q < H1.size := (hP1 _ _ hlast).lt
  have h0 : ad 0 ≤ q := hD1.2 _ _ hlast
  have e0 := hA (ndC σ)
  by_cases h8 : q - ad 0 < ndC σ
  · have hj' : (wd cy ad σ ++ [(q, e)])[q - ad 0]? = some (ad (q - ad 0), cellD cy ad σ (q - ad 0)) := by
      rw [List.getElem?_append_left (by omega)]; exact wd_at cy ad σ h8
    have := hD1.1 _ _ _ _ hj' hlast (show ad (q - ad 0) = q by rw [hA]; omega)
    omega
  · omega
theorem rd_new (C : vC p s m args meth c cc nL ret own D (cyT cy)) (hA : adC ad) (hz : s.heap.size = ad n0) (hn : ndC σ = n0 + kc) {idx ci N : Nat} {Cn : String} {Tt : u_T} {ty : Nat → FieldType} (hc : vwCl[ci]? = some (Cn, Tt, N)) (hci : ci < 11) (hN : N = nfl ci) (hin : ∀ w ∈ u_ws Cn Tt N, w ∈ tg) (hty : ∀ k, k < N → parseFieldDescriptor (Tt k).2.2.1 = some (ty k)) (hdf : ∀ j, j < N → defaultValue (ty j) = vp_V ((List.range (nfl ci)).map (fun k => if isR ci k = true then Value.null else .int 0)) j) (h1 : Cond.classLink own idx Cn ∈ tg) (h2 : Cond.instantiable Cn N ∈ tg) (h3 : Cond.initialized Cn ∈ tg) (hR1 : kc + 1 ≤ R.cells) (hR2 : ks + N ≤ R.slots) (d : decode cc pc = .ok (.new idx, 3)) {jn : Nat} (hj : ndC σ = jn) (k : V p l e R s m args below meth c D (geA (ad 0)) nL Q (kc + 1) (ks + N) (wd cy ad (nwD σ ci 0)) (pc + 3) ls (.ref (ad jn) :: st)) : V p l e R s m args below meth c D (geA (ad 0)) nL Q kc ks (wd cy ad σ) pc ls st := fun H locs la hP hD hS hl => by
  subst hj
  refine va_new C.1 C.2.1 C.2.2.2.2.1 hin ty hty C.2.2.2.1 (C.2.2.2.2.1 _ h1) (C.2.2.2.2.1 _ h2) (C.2.2.2.2.1 _ h3) C.2.2.2.2.2.2.2.1 hP hD hS (fun q h => rd_in hA (hz ▸ h)) hc hdf hR1 hR2 d (fun q H1 hP1 hD1 hS1 => ?_)
  intro T hT X
  have hb : H1.size ≤ ad (ndC σ) + 1 := by
    have := X.heapSize
    rw [hT] at this
    rw [hn, ad_atD hA, ← hz]; omega
  have hq := rd_q hA hP1 hD1 hb
  subst hq
  have e := wd_nw cy ad σ ci 0 (nd_obj cy ad σ 0 hci)
  rw [e] at hP1 hD1
  exact k H1 locs la hP1 hD1 hS1 hl T hT X
theorem rd_newi (C : vC p s m args meth c cc nL ret own D (cyT cy)) (hA : adC ad) (hz : s.heap.size = ad n0) (hn : ndC σ = n0 + kc) {n : Int32} {N : Nat} (h1 : Cond.arrayClass .int ∈ tg) (hn0 : ¬ n < 0) (hN : n.toNatClampNeg = N) (hN2 : N ≤ 100000) (hR1 : kc + 1 ≤ R.cells) (hR2 : ks + N ≤ R.slots) (d : decode cc pc = .ok (.newarray .int, 2)) {jn : Nat} (hj : ndC σ = jn) (k : V p l e R s m args below meth c D (geA (ad 0)) nL Q (kc + 1) (ks + N) (wd cy ad (nwD σ 12 N)) (pc + 2) ls (.ref (ad jn) :: st)) : V p l e R s m args below meth c D (geA (ad 0)) nL Q kc ks (wd cy ad σ) pc ls (.int n :: st) := fun H locs la hP hD hS hl => by
  subst hj
  refine va_newa (atype := .int) (ty := .int) (a0 := (N, .inl (fun _ => 0))) C.1 C.2.1 (C.2.2.2.2.1 _ h1) rfl C.2.2.2.2.2.2.2.1 hP hD hS (fun q h => rd_in hA (hz ▸ h)) (fun cA => rfl) hn0 hN (show N * componentBytes .int ≤ 536870912 by simp only [componentBytes]; omega) hR1 hR2 d (fun q cA H1 hK1 hP1 hD1 hS1 => ?_)
  intro T hT X
  have hb : H1.size ≤ ad (ndC σ) + 1 := by
    have := X.heapSize
    rw [hT] at this
    rw [hn, ad_atD hA, ← hz]; omega
  have hq := rd_q hA hP1 hD1 hb
  subst hq
  have hc : cA = cy 0 := cy_eq (t0 := 0) C.2.2.2.2.2.2.2.1 rfl hK1
  subst hc
  have e := wd_nw cy ad σ 12 N (nd_int cy ad σ N)
  rw [e] at hP1 hD1
  exact k H1 locs la hP1 hD1 hS1 hl T hT X
theorem rd_newz (C : vC p s m args meth c cc nL ret own D (cyT cy)) (hA : adC ad) (hz : s.heap.size = ad n0) (hn : ndC σ = n0 + kc) {n : Int32} {N : Nat} (h1 : Cond.arrayClass .boolean ∈ tg) (hn0 : ¬ n < 0) (hN : n.toNatClampNeg = N) (hN2 : N ≤ 100000) (hR1 : kc + 1 ≤ R.cells) (hR2 : ks + N ≤ R.slots) (d : decode cc pc = .ok (.newarray .boolean, 2)) {jn : Nat} (hj : ndC σ = jn) (k : V p l e R s m args below meth c D (geA (ad 0)) nL Q (kc + 1) (ks + N) (wd cy ad (nwD σ 14 N)) (pc + 2) ls (.ref (ad jn) :: st)) : V p l e R s m args below meth c D (geA (ad 0)) nL Q kc ks (wd cy ad σ) pc ls (.int n :: st) := fun H locs la hP hD hS hl => by
  subst hj
  refine va_newa (atype := .boolean) (ty := .boolean) (a0 := (N, .inl (fun _ => 0))) C.1 C.2.1 (C.2.2.2.2.1 _ h1) rfl C.2.2.2.2.2.2.2.1 hP hD hS (fun q h => rd_in hA (hz ▸ h)) (fun cA => rfl) hn0 hN (show N * componentBytes .boolean ≤ 536870912 by simp only [componentBytes]; omega) hR1 hR2 d (fun q cA H1 hK1 hP1 hD1 hS1 => ?_)
  intro T hT X
  have hb : H1.size ≤ ad (ndC σ) + 1 := by
    have := X.heapSize
    rw [hT] at this
    rw [hn, ad_atD hA, ← hz]; omega
  have hq := rd_q hA hP1 hD1 hb
  subst hq
  have hc : cA = cy 2 := cy_eq (t0 := 2) C.2.2.2.2.2.2.2.1 rfl hK1
  subst hc
  have e := wd_nw cy ad σ 14 N (nd_boo cy ad σ N)
  rw [e] at hP1 hD1
  exact k H1 locs la hP1 hD1 hS1 hl T hT X
theorem rd_newr (C : vC p s m args meth c cc nL ret own D (cyT cy)) (hA : adC ad) (hz : s.heap.size = ad n0) (hn : ndC σ = n0 + kc) {n : Int32} {N K idx : Nat} {Cn : String} (hK : 14 < K) (ht : (cyT cy)[K - 12]? = some (cy (K - 12), .object Cn)) (h1 : Cond.classLink own idx Cn ∈ tg) (h2 : Cond.arrayOver (.object Cn) ∈ nws) (hn0 : ¬ n < 0) (hN : n.toNatClampNeg = N) (hN2 : N ≤ 100000) (hR1 : kc + 1 ≤ R.cells) (hR2 : ks + N ≤ R.slots) (d : decode cc pc = .ok (.anewarray idx, 3)) {jn : Nat} (hj : ndC σ = jn) (k : V p l e R s m args below meth c D (geA (ad 0)) nL Q (kc + 1) (ks + N) (wd cy ad (nwD σ K N)) (pc + 3) ls (.ref (ad jn) :: st)) : V p l e R s m args below meth c D (geA (ad 0)) nL Q kc ks (wd cy ad σ) pc ls (.int n :: st) := fun H locs la hP hD hS hl => by
  subst hj
  refine va_newq C.1 C.2.1 C.2.2.2.1 (C.2.2.2.2.1 _ h1) (C.2.2.2.2.2.2.2.2 _ h2) C.2.2.2.2.2.2.2.1 hP hD hS (fun q h => rd_in hA (hz ▸ h)) hn0 hN (by omega) hR1 hR2 d (fun q cA H1 hK1 hP1 hD1 hS1 => ?_)
  intro T hT X
  have hb : H1.size ≤ ad (ndC σ) + 1 := by
    have := X.heapSize
    rw [hT] at this
    rw [hn, ad_atD hA, ← hz]; omega
  have hq := rd_q hA hP1 hD1 hb
  subst hq
  have hc : cA = cy (K - 12) := cy_eq C.2.2.2.2.2.2.2.1 ht hK1
  subst hc
  have e := wd_nw cy ad σ K N (nd_ref cy ad σ N hK)
  rw [e] at hP1 hD1
  exact k H1 locs la hP1 hD1 hS1 hl T hT X
theorem rd_obj (C : vC p s m args meth c cc nL ret own D (cyT cy)) {idx a : Nat} {ws : va_W} (h1 : Cond.methodLink own idx objectInit ∈ tg) (h2 : Cond.instanceMethod objectInit ∈ tg) (h3 : Cond.code objectInit ⟨#[0xb1]⟩ 1 none ∈ tg) (hfr : 1 ≤ R.frames) (hlo : (st.map fun v => v.category).sum + 12 ≤ R.locals) (d : decode cc pc = .ok (.invokespecial idx, 3)) (k : V p l e R s m args below meth c D (geA (ad 0)) nL Q kc ks ws (pc + 3) ls st) : V p l e R s m args below meth c D (geA (ad 0)) nL Q kc ks ws pc ls (.ref a :: st) := fun H locs la hP hD hS hl => W.objInit C.1 C.2.1 C.2.2.2.1 (C.2.2.2.2.1 _ h1) (C.2.2.2.2.1 _ h2) (C.2.2.2.2.1 _ h3) rfl (hl.1.trans C.2.2.1.symm) rfl d hfr (by have h9 : 2 * (F0 m pc la (Value.ref a :: st)).monitorRoom = 0 := rfl; omega) (W.eq (g2 := F0 m (pc + 3) la st) rfl (k H locs la hP hD hS hl))
theorem rd_putF (C : vC p s m args meth c cc nL ret own D (cyT cy)) {idx ci k j : Nat} {ty : FieldType} (hi : meth.name = "<init>") (r : Option Nat) (h : fC own idx ci k) (ho' : ∃ Tt N, vwCl[ci]? = some (own, Tt, N)) (hw : fF ci k ty) (ht : refKind ty = true) (hr : isR ci k = true) (ho : okd σ j ci = true) (d : decode cc pc = .ok (.putfield idx, 3)) (kk : V p l e R s m args below meth c D (geA (ad 0)) nL Q kc ks (wd cy ad (sR σ j k r)) (pc + 3) ls st) : V p l e R s m args below meth c D (geA (ad 0)) nL Q kc ks (wd cy ad σ) pc ls (va_rf (r.map ad) :: .ref (ad j) :: st) := by
  obtain ⟨Cn, Tt, N, ⟨h1, h2, h3, h4, h5, h6⟩, h7⟩ := h
  obtain ⟨Cn', Tt', N', ty0, g1, g2, g3, g4, g5⟩ := hw
  obtain ⟨rfl, rfl, rfl⟩ : Cn = Cn' ∧ Tt = Tt' ∧ N = N' := by
    have := h1.symm.trans g1
    simp only [Option.some.injEq, Prod.mk.injEq] at this
    exact this
  obtain ⟨Tt2, N2, k1⟩ := ho'
  obtain rfl : Cn = own := by
    have := h1.symm.trans k1
    simp only [Option.some.injEq, Prod.mk.injEq] at this
    exact this.1
  have e := wd_sR cy ad σ r ho h5 hr
  exact fun H locs la hP hD hS hl => va_putF C.1 C.2.1 C.2.2.2.2.1 h2 ty0 g2 g3 C.2.2.2.1 C.2.2.2.2.2.2.2.1 hP hD hS j (wd_obj cy ad σ ho h5) h1 k h3 (C.2.2.2.2.1 _ h7) (fun x h => by rw [h6] at h; exact h) g4 hi h6 g5 (rf_n ht _) (rf_f ht _) (by simp [← h4, h3]) d (fun H1 locs1 hP1 hD1 hS1 => kk H1 locs1 la (e ▸ hP1) (e ▸ hD1) hS1 hl)
theorem rd_run {mc ms kc' : Nat} {rest : List Value} {r : Option Value} {σ' : CS} {a : Array Value} (hA : adC ad) (hz : s.heap.size = ad n0) (hn : ndC σ = n0 + kc) (hn' : ndC σ' = n0 + kc') (hr : ∀ (H : Heap) (locs : List Loc) (la : Array Slot), H.size = ad (ndC σ) → va_P D vwCl (wd cy ad σ) H → lv_has la nL ls → va_Run p l e R s m args below meth c H locs kc ks mc ms (F0 m pc la st) rest (vQD D cy ad r σ' a) (geA (ad 0))) (k : V p l e R s m args below meth c D (geA (ad 0)) nL Q kc' (ks + ms) (wd cy ad σ') (pc + 3) ls (r.toList ++ rest)) : V p l e R s m args below meth c D (geA (ad 0)) nL Q kc ks (wd cy ad σ) pc ls st := fun H locs la hP hD hS hl => by
  intro T hT X
  have hb : H.size = ad (ndC σ) := sz_ofD hA hz hn hP hS (by have := X.heapSize; rw [hT] at this; exact this)
  obtain ⟨v, st₀, t, T', L, h0, X', hL, e1, e2, ⟨hv, hp, hs, hz9, hk⟩, stp⟩ := hr H locs la hb hP hl T hT X
  cases hv
  rw [h0] at hz9 hk
  have X2 : Stand p l e R s m args below meth c T' (locs ++ L) kc' (ks + ms) := { X' with same := ⟨X'.same.1, X'.same.2.1, (by
    have e3 : T'.heap.size = s.heap.size + kc' := by rw [e1, hs, hn', ad_atD hA, hz]
    show T'.heap.size ≤ s.heap.size + kc'
    omega), X'.same.2.2.2⟩ }
  obtain ⟨t2, a1, b1⟩ := k T'.heap (locs ++ L) la (by rw [e1]; exact hp) (wd_D hA cy σ') ⟨Nat.le_trans hS.1 (by rw [e1]; exact hz9), fun q h1 h2 => by rw [e1, hk q (Nat.lt_of_lt_of_le h1 hS.1) h2]; exact hS.2.1 q h1 h2, fun q hq => by
      rcases List.mem_append.mp hq with h | h
      · exact hS.2.2 q h
      · exact hL q h⟩ hl T' rfl X2
  exact ⟨t2, stp t2 a1, b1⟩
theorem rd_pc {as : List Value} {σ : CS} : FrameBlind (va_Pc as (fun U => va_P D vwCl (wd cy ad σ) U.heap ∧ va_K D vwCl (cyT cy) U ∧ NW U ∧ U.heap.size = ad (ndC σ))) := by
  intro a U g mk q
  obtain ⟨q0, qP, qK, qN, qs⟩ := q
  exact ⟨q0, qP, va_K.moved (u := U) (U := U.calling g mk a) (Vm.Alike.refl U.vm) qK, NW.same (u := U) (U := U.calling g mk a) rfl qN, qs⟩
theorem rd_init (C : vC p s m args meth c cc nL ret own D (cyT cy)) (hA : adC ad) (hz : s.heap.size = ad n0) (hn : ndC σ = n0 + kc) {y : MethodName} {bytes : ByteArray} {maxL n idx fr lo mc ms j kc' : Nat} {σ' : CS} (As rest : List Value) (hM : MVD l D cy ad y bytes maxL none fr lo mc ms (.ref (ad j) :: As) σ none σ') (hn' : ndC σ' = n0 + kc') (hY : vYI y bytes maxL n) (hlk : Cond.methodLink own idx y ∈ tg) (hR : fr + 1 ≤ R.frames ∧ 8 + (maxL + 11) + lo ≤ R.locals) (hf : kc + mc ≤ R.cells ∧ ks + ms ≤ R.slots) (hnn : As.length = n) (hst : st = As.reverse ++ .ref (ad j) :: rest) (hcat : (rest.map fun v => v.category).sum ≤ 8) (d : decode cc pc = .ok (.invokespecial idx, 3)) (k : V p l e R s m args below meth c D (geA (ad 0)) nL Q kc' (ks + ms) (wd cy ad σ') (pc + 3) ls rest) : V p l e R s m args below meth c D (geA (ad 0)) nL Q kc ks (wd cy ad σ) pc ls st := by
  obtain ⟨y1, y3, y4, y5, y6, y7, y8⟩ := hY
  subst hst
  refine rd_run (mc := mc) (rest := rest) (r := none) (σ' := σ') (a := (Value.ref (ad j) :: As).toArray) hA hz hn hn' (fun H locs la hb hP hl => ?_) k
  refine va_runI (Ts := tg) (n := n) (bytes := bytes) (maxL := maxL) ⟨C.1, C.2.1, C.2.2.1, C.2.2.2.1, C.2.2.2.2.1⟩ hM (cwI n C.2.2.2.2.1 (tg_code y4) rfl rfl rfl (C.2.2.2.2.1 _ y3) (C.2.2.2.2.1 _ hlk) (C.2.2.2.2.1 _ y1) y5 ⟨y6, y7, y8⟩ hR) ⟨rd_pc, ?_⟩ rfl hnn hl.1 rfl (lv_room hcat) d hf
  intro U hU hW
  exact ⟨rfl, by rw [hU]; exact hP, va_K.moved hW.alike C.2.2.2.2.2.2.2.1, NW.warm hW C.2.2.2.2.2.2.2.2, by rw [hU]; exact hb⟩
theorem rd_initN (C : vC p s m args meth c cc nL ret own D (cyT cy)) (hA : adC ad) (hz : s.heap.size = ad n0) (hn : ndC σ = n0 + kc) {y : MethodName} {bytes : ByteArray} {maxL n idx fr lo mc ms j kc' : Nat} {host : String} {σ' : CS} (As rest : List Value) (hM : MVD l D cy ad y bytes maxL none fr lo mc ms (.ref (ad j) :: As) σ none σ') (hn' : ndC σ' = n0 + kc') (hY : vYI y bytes maxL n) (hlk : Cond.methodLinkNest own idx y host ∈ nws) (hR : fr + 1 ≤ R.frames ∧ 8 + (maxL + 11) + lo ≤ R.locals) (hf : kc + mc ≤ R.cells ∧ ks + ms ≤ R.slots) (hnn : As.length = n) (hst : st = As.reverse ++ .ref (ad j) :: rest) (hcat : (rest.map fun v => v.category).sum ≤ 8) (d : decode cc pc = .ok (.invokespecial idx, 3)) (k : V p l e R s m args below meth c D (geA (ad 0)) nL Q kc' (ks + ms) (wd cy ad σ') (pc + 3) ls rest) : V p l e R s m args below meth c D (geA (ad 0)) nL Q kc ks (wd cy ad σ) pc ls st := by
  obtain ⟨y1, y3, y4, y5, y6, y7, y8⟩ := hY
  subst hst
  refine rd_run (mc := mc) (rest := rest) (r := none) (σ' := σ') (a := (Value.ref (ad j) :: As).toArray) hA hz hn hn' (fun H locs la hb hP hl => ?_) k
  refine va_runIN (Ts := tg) (n := n) (bytes := bytes) (maxL := maxL) ⟨C.1, C.2.1, C.2.2.1, C.2.2.2.1, C.2.2.2.2.1⟩ hM ⟨va_cnB n C.2.2.2.2.1 (tg_code y4) rfl rfl rfl (C.2.2.2.2.2.2.2.2 _ hlk) (C.2.2.2.2.1 _ y3) ⟨y6, y7, y8⟩ hR, y5, C.2.2.2.2.1 _ y1⟩ ⟨rd_pc, ?_⟩ rfl hnn hl.1 rfl (lv_room hcat) d hf
  intro U hU hW
  exact ⟨rfl, by rw [hU]; exact hP, va_K.moved hW.alike C.2.2.2.2.2.2.2.1, NW.warm hW C.2.2.2.2.2.2.2.2, by rw [hU]; exact hb⟩
theorem rd_fin {mc ms : Nat} {σ' : CS} {r : Option Value} (hA : adC ad) (hz : s.heap.size = ad n0) (hn : ndC σ = n0 + kc) (h1 : kc ≤ mc) (h2 : ks ≤ ms) (hw : ∀ (H : Heap) (locs : List Loc) (la : Array Slot), H.size = ad (ndC σ) → va_P D vwCl (wd cy ad σ) H → va_S (geA (ad 0)) s.heap H locs → W p l e R s m args below meth c H locs mc ms (MQ below (vQD D cy ad r σ') args s mc ms (geA (ad 0))) (F0 m pc la st)) : V p l e R s m args below meth c D (geA (ad 0)) nL (MQ below (vQD D cy ad r σ') args s mc ms (geA (ad 0))) kc ks (wd cy ad σ) pc ls st := fun H locs la hP hD hS hl => by
  intro T hT X
  have hb : H.size = ad (ndC σ) := sz_ofD hA hz hn hP hS (by have := X.heapSize; rw [hT] at this; exact this)
  exact W.widen h1 h2 (hw H locs la hb hP hS) T hT X
theorem rd_vret (C : vC p s m args meth c cc nL none own D (cyT cy)) {mc ms : Nat} (hA : adC ad) (hz : s.heap.size = ad n0) (hn : ndC σ = n0 + kc) (h1 : kc ≤ mc) (h2 : ks ≤ ms) (d : decode cc pc = .ok (.return_, 1)) : V p l e R s m args below meth c D (geA (ad 0)) nL (MQ below (vQD D cy ad none σ) args s mc ms (geA (ad 0))) kc ks (wd cy ad σ) pc ls [] :=
  rd_fin hA hz hn h1 h2 (fun H locs la hb hP hS => W.vret C.1 C.2.1 C.2.2.2.2.2.1 (fun t ht hW => ⟨rfl, by rw [ht]; exact hP, by rw [ht]; exact hb, hS.F ht⟩) hS.2.2 d C.2.2.2.2.2.2.1)
theorem rd_getR (C : vC p s m args meth c cc nL ret own D (cyT cy)) {A : Nat → Prop} {idx ci k j : Nat} (r : Option Nat) (h : fC own idx ci k) (hr : isR ci k = true) (ho : okd σ j ci = true) (hv : σ.2.1 j k = r) (d : decode cc pc = .ok (.getfield idx, 3)) (kk : V p l e R s m args below meth c D A nL Q kc ks (wd cy ad σ) (pc + 3) ls (va_rf (r.map ad) :: st)) : V p l e R s m args below meth c D A nL Q kc ks (wd cy ad σ) pc ls (.ref (ad j) :: st) := by
  obtain ⟨Cn, Tt, N, ⟨h1, h2, h3, h4, h5, h6⟩, h7⟩ := h
  have e : fvD ad σ j ci k = va_rf (r.map ad) := by simp [fvD, hr, hv]
  exact v_get C j k (fvD ad σ j ci k) h2 (wd_obj cy ad σ ho h5) h1 h3 h6 h7 (by subst h4; simp [List.getElem?_map, List.getElem?_range h3]) d (e ▸ kk)
theorem rd_putV (C : vC p s m args meth c cc nL ret own D (cyT cy)) {A : Nat → Prop} {idx ci k j : Nat} {v : Value} {ty : FieldType} {ws' : va_W} (h : fC own idx ci k) (hw : fW ci k ty) (hn : narrow ty v = v) (hf : Jvm.fits ty v = true) (ho : okd σ j ci = true) (d : decode cc pc = .ok (.putfield idx, 3)) (hws : (wd cy ad σ).set j (ad j, .inr (ci, ((List.range (nfl ci)).map (fvD ad σ j ci)).set k v)) = ws') (kk : V p l e R s m args below meth c D A nL Q kc ks ws' (pc + 3) ls st) : V p l e R s m args below meth c D A nL Q kc ks (wd cy ad σ) pc ls (v :: .ref (ad j) :: st) := by
  obtain ⟨Cn, Tt, N, ⟨h1, h2, h3, h4, h5, h6⟩, h7⟩ := h
  obtain ⟨Cn', Tt', N', ty0, g1, g2, g3, g4, g5⟩ := hw
  obtain ⟨rfl, rfl, rfl⟩ : Cn = Cn' ∧ Tt = Tt' ∧ N = N' := by
    have := h1.symm.trans g1
    simp only [Option.some.injEq, Prod.mk.injEq] at this
    exact this
  exact v_put C j k h2 g2 g3 (wd_obj cy ad σ ho h5) h1 h3 h6 h7 g4 g5 hn hf (by simp [← h4, h3]) d hws kk
theorem rd_putI (C : vC p s m args meth c cc nL ret own D (cyT cy)) {A : Nat → Prop} {idx ci k j : Nat} {x : Int32} (h : fC own idx ci k) (hw : fW ci k .int) (hr : isR ci k = false) (hc : ci < 11) (ho : okd σ j ci = true) (d : decode cc pc = .ok (.putfield idx, 3)) (kk : V p l e R s m args below meth c D A nL Q kc ks (wd cy ad (sI σ j k x)) (pc + 3) ls st) : V p l e R s m args below meth c D A nL Q kc ks (wd cy ad σ) pc ls (.int x :: .ref (ad j) :: st) := rd_putV C h hw rfl rfl ho d (wd_sI cy ad σ x ho hc hr) kk
theorem rd_putR (C : vC p s m args meth c cc nL ret own D (cyT cy)) {A : Nat → Prop} {idx ci k j : Nat} {ty : FieldType} (r : Option Nat) (h : fC own idx ci k) (hw : fW ci k ty) (ht : refKind ty = true) (hr : isR ci k = true) (hc : ci < 11) (ho : okd σ j ci = true) (d : decode cc pc = .ok (.putfield idx, 3)) (kk : V p l e R s m args below meth c D A nL Q kc ks (wd cy ad (sR σ j k r)) (pc + 3) ls st) : V p l e R s m args below meth c D A nL Q kc ks (wd cy ad σ) pc ls (va_rf (r.map ad) :: .ref (ad j) :: st) := rd_putV C h hw (rf_n ht _) (rf_f ht _) ho d (wd_sR cy ad σ r ho hc hr) kk
theorem rd_aast (C : vC p s m args meth c cc nL ret own D (cyT cy)) {A : Nat → Prop} {i : Int32} {j K ci a : Nat} {q : vw_C} (ho : okd σ j K = true) (hK : 14 < K) (ht : (cyT cy)[K - 12]? = some (cy (K - 12), .object q.1)) (hc : vwCl[ci]? = some q) (hci : ci < 11) (hv : okd σ a ci = true) (hin : vp_in i (σ.2.2.2.1 j)) (d : decode cc pc = .ok (.aastore, 1)) (kk : V p l e R s m args below meth c D A nL Q kc ks (wd cy ad (sR σ j i.toNatClampNeg (some a))) (pc + 1) ls st) : V p l e R s m args below meth c D A nL Q kc ks (wd cy ad σ) pc ls (.ref (ad a) :: .int i :: .ref (ad j) :: st) := by
  have e := wd_sRA cy ad σ i.toNatClampNeg (some a) ho hK
  exact fun H locs la hP hD hS hl => va_astq C.1 C.2.1 C.2.2.2.2.2.2.2.1 hP hD hS j (K - 12) a ci (wd_rfs cy ad σ ho hK) ht (wd_obj cy ad σ hv hci) hc hin d (fun H1 locs1 hP1 hD1 hS1 => kk H1 locs1 la (e ▸ hP1) (e ▸ hD1) hS1 hl)
end DL

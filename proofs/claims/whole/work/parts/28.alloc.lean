def nwC (σ : CS) (K n : Nat) : CS := ((fun a => if a = 49 + ndC σ then (fun _ => 0) else σ.1 a), (fun a => if a = 49 + ndC σ then (fun _ => none) else σ.2.1 a), (fun a => if a = 49 + ndC σ then K else σ.2.2.1 a), (fun a => if a = 49 + ndC σ then n else σ.2.2.2.1 a), ndC σ + 1)
theorem srf_ge {j : Nat} (h : 49 ≤ j) (k : Nat) : srf j k = 0 := by
  unfold srf
  split <;> first | rfl | omega
theorem nw_cell (cy : Nat → ClassId) (ad : Nat → Nat) (σ : CS) (K n : Nat) {i : Nat} (h : i ≠ 49 + ndC σ) : cellC cy ad (nwC σ K n) i = cellC cy ad σ i := by
  have h1 : (nwC σ K n).1 i = σ.1 i := by simp [nwC, h]
  have h2 : knd (nwC σ K n) i = knd σ i := by simp [knd, nwC, h]
  have h3 : lnC (nwC σ K n) i = lnC σ i := by simp [lnC, nwC, h]
  have h4 : rfv (nwC σ K n) i = rfv σ i := by
    funext q
    simp [rfv, nwC, h]
  have h5 : ∀ ci, fvC ad (nwC σ K n) i ci = fvC ad σ i ci := fun ci => by
    funext q
    unfold fvC
    rw [h1, h4]
  simp only [cellC, h1, h2, h3, h4, h5]
theorem nw_knd (σ : CS) (K n : Nat) : knd (nwC σ K n) (49 + ndC σ) = K := by
  unfold knd
  rw [if_neg (by omega)]
  simp [nwC]
theorem nw_ln (σ : CS) (K n : Nat) : lnC (nwC σ K n) (49 + ndC σ) = n := by
  unfold lnC
  rw [if_neg (by omega)]
  simp [nwC]
theorem ok_new (σ : CS) (K n : Nat) : okc (nwC σ K n) (49 + ndC σ) K = true := by
  simp only [okc, nw_knd, Bool.and_eq_true, decide_eq_true_eq, beq_iff_eq]
  exact ⟨by have h9 : ndC (nwC σ K n) = ndC σ + 1 := rfl; omega, trivial⟩
theorem nw_rfv (σ : CS) (K n k : Nat) : rfv (nwC σ K n) (49 + ndC σ) k = none := by simp [rfv, srf_ge (show 49 ≤ 49 + ndC σ by omega), nwC]
theorem nw_I (σ : CS) (K n : Nat) : (nwC σ K n).1 (49 + ndC σ) = fun _ => 0 := by simp [nwC]
theorem nw_obj (cy : Nat → ClassId) (ad : Nat → Nat) (σ : CS) {K : Nat} (n : Nat) (h : K < 11) : cellC cy ad (nwC σ K n) (49 + ndC σ) = .inr (K, (List.range (nfl K)).map (fun k => if isR K k = true then .null else .int 0)) := by
  simp only [cellC, nw_knd, h, if_true]
  congr 2
  apply List.map_congr_left
  intro k _
  simp only [fvC, nw_rfv, nw_I, Option.map_none, va_rf]
theorem nw_int (cy : Nat → ClassId) (ad : Nat → Nat) (σ : CS) (n : Nat) : cellC cy ad (nwC σ 12 n) (49 + ndC σ) = .inl (cy 0, n, .inl (fun _ => 0)) := by
  simp [cellC, nw_knd, nw_ln, nw_I]
theorem nw_ref (cy : Nat → ClassId) (ad : Nat → Nat) (σ : CS) {K : Nat} (n : Nat) (h : 14 < K) : cellC cy ad (nwC σ K n) (49 + ndC σ) = .inl (cy (K - 12), n, .inr (.inr (.inr (.inr (fun _ => none))))) := by
  have h1 : ¬ K < 11 := by omega
  have h2 : ¬ K = 12 := by omega
  have h3 : ¬ K = 14 := by omega
  simp [cellC, nw_knd, nw_ln, nw_rfv, h1, h2, h3]
theorem wc_nw (cy : Nat → ClassId) (ad : Nat → Nat) (σ : CS) (K n : Nat) {e : va_E} (he : cellC cy ad (nwC σ K n) (49 + ndC σ) = e) : wc cy ad σ ++ [(ad (49 + ndC σ), e)] = wc cy ad (nwC σ K n) := by
  unfold wc
  rw [show 49 + ndC (nwC σ K n) = (49 + ndC σ) + 1 from rfl, List.range_succ, List.map_append]
  congr 1
  · apply List.map_congr_left
    intro i hi
    rw [nw_cell cy ad σ K n (by have := List.mem_range.mp hi; omega)]
  · simp [he]
theorem ad_at {ad : Nat → Nat} (hA : adOK ad) (a b : Nat) : ad (49 + (a + b)) = ad (49 + a) + b := by
  rw [hA.2, hA.2]; omega
theorem wc_last {D : va_G} {cy : Nat → ClassId} {ad : Nat → Nat} {σ : CS} {H : Heap} (hP : va_P D vwCl (wc cy ad σ) H) {j : Nat} (hj : j < 49 + ndC σ) : ad j < H.size := (hP j _ (wc_at cy ad σ hj)).lt
theorem sz_of {D : va_G} {cy : Nat → ClassId} {ad : Nat → Nat} {σ : CS} {H H0 : Heap} {locs : List Loc} {n0 kc : Nat} (hA : adOK ad) (hz : H0.size = ad (49 + n0)) (hn : ndC σ = n0 + kc) (hP : va_P D vwCl (wc cy ad σ) H) (hS : va_S (inC ad) H0 H locs) (hb : H.size ≤ H0.size + kc) : H.size = ad (49 + ndC σ) := by
  rw [hn, ad_at hA, ← hz]
  by_cases h : kc = 0
  · subst h
    have := hS.1
    omega
  · have h1 := wc_last hP (show 49 + (n0 + (kc - 1)) < 49 + ndC σ by omega)
    rw [ad_at hA, ← hz] at h1
    omega
/-- a contract of a method that may make cells -/
def vQA (D : va_G) (cy : Nat → ClassId) (ad : Nat → Nat) (r : Option Value) (σ' : CS) : Array Value → State → Outcome → State → Prop := fun _ st oc t => oc = .returned r ∧ va_P D vwCl (wc cy ad σ') t.heap ∧ t.heap.size = ad (49 + ndC σ') ∧ va_F (inC ad) st t
def MVA (l : Launch) (D : va_G) (cy : Nat → ClassId) (ad : Nat → Nat) (y : MethodName) (bytes : ByteArray) (maxL : Nat) (ret : Option FieldType) (fr lo mc ms : Nat) (as : List Value) (σ : CS) (r : Option Value) (σ' : CS) : Prop :=
  Met l y (Cond.code y bytes maxL ret :: tg) { frames := fr, cells := mc, slots := ms, locals := lo } (va_Pc as (fun U => va_P D vwCl (wc cy ad σ) U.heap ∧ va_K D vwCl (cyT cy) U ∧ NW U ∧ U.heap.size = ad (49 + ndC σ))) (vQA D cy ad r σ') mc ms (inC ad)
theorem MVA.of {l : Launch} {D : va_G} {cy : Nat → ClassId} {ad : Nat → Nat} {y : MethodName} {bytes : ByteArray} {maxL : Nat} {ret : Option FieldType} {fr lo kc ks : Nat} {as : List Value} {σ σ' : CS} {r : Option Value} (hy : plainName y.cls = true) (hD : va_D (inC ad) (wc cy ad σ)) (hn : (lg_sl as).length ≤ maxL) (ls : List (Nat × Value)) (hls : lv_args 0 as = ls)
    (body : ∀ (p : Program) (e : Env) (s : State) (m : MethodId) (args : Array Value) (below : List Frame) (meth : Method) (c : Code), vC p s m args meth c bytes maxL ret y.cls D (cyT cy) → s.heap.size = ad (49 + ndC σ) → meth.name = y.name → V p l e { frames := fr, cells := kc, slots := ks, locals := lo } s m args below meth c D (inC ad) maxL (MQ below (vQA D cy ad r σ') args s kc ks (inC ad)) 0 0 (wc cy ad σ) 0 ls []) : MVA l D cy ad y bytes maxL ret fr lo kc ks as σ r σ' := by
  refine Met.ofW (cc := bytes) (maxL := maxL) (ret := ret) hy rfl ?_
  intro p e s m args below meth c s₁ B hml hv
  obtain ⟨rfl, hP, hK, hN, hz⟩ := hv
  have hts := atoms_spec (ws := Cond.code y bytes maxL ret :: tg) B.pre
  have hl := lv_entry as (n := maxL) hn
  rw [lg_entry_eq]
  rw [hls] at hl
  exact body p e s m _ below meth c ⟨B.exec, B.bytes, hml, findClass_of_methodNamed B.named, fun w hw => hts w (List.mem_cons_of_mem _ hw), B.returns, B.notSynchronized, hK, hN⟩ hz (name_of_methodNamed B.named B.method).1 s.heap [] _ hP hD va_S.rf hl
section AL
variable {p : Program} {l : Launch} {e : Env} {R : Room} {s : State} {m : MethodId} {args : Array Value} {below : List Frame} {meth : Method} {c : Code} {Q : State → Prop} {cc : ByteArray} {nL kc ks pc n0 : Nat} {ret : Option FieldType} {own : String} {D : va_G} {ls : List (Nat × Value)} {st : List Value} {cy : Nat → ClassId} {ad : Nat → Nat} {σ : CS}
theorem v_kc {kc' ks' : Nat} {ws : va_W} (h1 : kc ≤ kc') (h2 : ks ≤ ks') (k : V p l e R s m args below meth c D (inC ad) nL Q kc' ks' ws pc ls st) : V p l e R s m args below meth c D (inC ad) nL Q kc ks ws pc ls st := fun H locs la hP hD hS hl => W.widen h1 h2 (k H locs la hP hD hS hl)
theorem r_in (hA : adOK ad) {b q : Nat} (h : ad (49 + b) ≤ q) : inC ad q := Or.inr (by have := hA.2 b; omega)
theorem r_q (hA : adOK ad) {q : Nat} {e : va_E} {H1 : Heap} (hP1 : va_P D vwCl (wc cy ad σ ++ [(q, e)]) H1) (hD1 : va_D (inC ad) (wc cy ad σ ++ [(q, e)])) (hb : H1.size ≤ ad (49 + ndC σ) + 1) : q = ad (49 + ndC σ) := by
  have hlen : (wc cy ad σ).length = 49 + ndC σ := by simp [wc]
  have hlast : (wc cy ad σ ++ [(q, e)])[49 + ndC σ]? = some (q, e) := by
    rw [List.getElem?_append_right (by omega)]; simp [hlen]
  have hlt : q < H1.size := (hP1 _ _ hlast).lt
  have hold : ∀ j, j < 49 + ndC σ → q ≠ ad j := by
    intro j hj hq
    have hj' : (wc cy ad σ ++ [(q, e)])[j]? = some (ad j, cellC cy ad σ j) := by
      rw [List.getElem?_append_left (by omega)]; exact wc_at cy ad σ hj
    have := hD1.1 j _ _ _ hj' hlast hq.symm
    omega
  rcases hD1.2 _ _ hlast with ⟨j, hj, hq⟩ | h
  · exact absurd hq (hold j (by omega))
  · have h9 := hA.2 (ndC σ)
    by_cases h8 : q - ad 49 < ndC σ
    · have := hA.2 (q - ad 49)
      exact absurd (show q = ad (49 + (q - ad 49)) by omega) (hold _ (by omega))
    · change ad 49 ≤ q at h
      omega
theorem r_new (C : vC p s m args meth c cc nL ret own D (cyT cy)) (hA : adOK ad) (hz : s.heap.size = ad (49 + n0)) (hn : ndC σ = n0 + kc) {idx ci N : Nat} {Cn : String} {Tt : u_T} {ty : Nat → FieldType} (hc : vwCl[ci]? = some (Cn, Tt, N)) (hci : ci < 11) (hN : N = nfl ci) (hin : ∀ w ∈ u_ws Cn Tt N, w ∈ tg) (hty : ∀ k, k < N → parseFieldDescriptor (Tt k).2.2.1 = some (ty k)) (hdf : ∀ j, j < N → defaultValue (ty j) = vp_V ((List.range (nfl ci)).map (fun k => if isR ci k = true then Value.null else .int 0)) j) (h1 : Cond.classLink own idx Cn ∈ tg) (h2 : Cond.instantiable Cn N ∈ tg) (h3 : Cond.initialized Cn ∈ tg) (hR1 : kc + 1 ≤ R.cells) (hR2 : ks + N ≤ R.slots) (d : decode cc pc = .ok (.new idx, 3)) (k : V p l e R s m args below meth c D (inC ad) nL Q (kc + 1) (ks + N) (wc cy ad (nwC σ ci 0)) (pc + 3) ls (.ref (ad (49 + ndC σ)) :: st)) : V p l e R s m args below meth c D (inC ad) nL Q kc ks (wc cy ad σ) pc ls st := fun H locs la hP hD hS hl => by
  refine va_new C.1 C.2.1 C.2.2.2.2.1 hin ty hty C.2.2.2.1 (C.2.2.2.2.1 _ h1) (C.2.2.2.2.1 _ h2) (C.2.2.2.2.1 _ h3) C.2.2.2.2.2.2.2.1 hP hD hS (fun q h => r_in hA (hz ▸ h)) hc hdf hR1 hR2 d (fun q H1 hP1 hD1 hS1 => ?_)
  intro T hT X
  have hb : H1.size ≤ ad (49 + ndC σ) + 1 := by
    have := X.heapSize
    rw [hT] at this
    rw [hn, ad_at hA, ← hz]; omega
  have hq := r_q hA hP1 hD1 hb
  subst hq
  have e := wc_nw cy ad σ ci 0 (nw_obj cy ad σ 0 hci)
  rw [e] at hP1 hD1
  exact k H1 locs la hP1 hD1 hS1 hl T hT X
theorem cy_eq {ty : FieldType} {cA : ClassId} {t0 : Nat} {cB : ClassId} (hK : va_K D vwCl (cyT cy) s) (ht : (cyT cy)[t0]? = some (cB, ty)) (hK2 : va_K D vwCl (cyT cy ++ [(cA, ty)]) s) : cA = cB := by
  have h1 := (hK.2 t0 _ ht).2
  have h2 := (hK2.2 6 (cA, ty) (by rfl)).2
  cases ty with
  | object C =>
    obtain ⟨_, _, _, _, _, e1⟩ := h1
    obtain ⟨_, _, _, _, _, e2⟩ := h2
    exact Option.some.inj (e2.symm.trans e1)
  | _ => exact Option.some.inj ((show s.vm.findClass _ = some cA from h2).symm.trans (show s.vm.findClass _ = some cB from h1))
theorem r_newi (C : vC p s m args meth c cc nL ret own D (cyT cy)) (hA : adOK ad) (hz : s.heap.size = ad (49 + n0)) (hn : ndC σ = n0 + kc) {n : Int32} {N : Nat} (h1 : Cond.arrayClass .int ∈ tg) (hn0 : ¬ n < 0) (hN : n.toNatClampNeg = N) (hN2 : N ≤ 100000) (hR1 : kc + 1 ≤ R.cells) (hR2 : ks + N ≤ R.slots) (d : decode cc pc = .ok (.newarray .int, 2)) (k : V p l e R s m args below meth c D (inC ad) nL Q (kc + 1) (ks + N) (wc cy ad (nwC σ 12 N)) (pc + 2) ls (.ref (ad (49 + ndC σ)) :: st)) : V p l e R s m args below meth c D (inC ad) nL Q kc ks (wc cy ad σ) pc ls (.int n :: st) := fun H locs la hP hD hS hl => by
  refine va_newa (atype := .int) (ty := .int) (a0 := (N, .inl (fun _ => 0))) C.1 C.2.1 (C.2.2.2.2.1 _ h1) rfl C.2.2.2.2.2.2.2.1 hP hD hS (fun q h => r_in hA (hz ▸ h)) (fun cA => rfl) hn0 hN (show N * componentBytes .int ≤ 536870912 by simp only [componentBytes]; omega) hR1 hR2 d (fun q cA H1 hK1 hP1 hD1 hS1 => ?_)
  intro T hT X
  have hb : H1.size ≤ ad (49 + ndC σ) + 1 := by
    have := X.heapSize
    rw [hT] at this
    rw [hn, ad_at hA, ← hz]; omega
  have hq := r_q hA hP1 hD1 hb
  subst hq
  have hc : cA = cy 0 := cy_eq (t0 := 0) C.2.2.2.2.2.2.2.1 rfl hK1
  subst hc
  have e := wc_nw cy ad σ 12 N (nw_int cy ad σ N)
  rw [e] at hP1 hD1
  exact k H1 locs la hP1 hD1 hS1 hl T hT X
theorem r_newr (C : vC p s m args meth c cc nL ret own D (cyT cy)) (hA : adOK ad) (hz : s.heap.size = ad (49 + n0)) (hn : ndC σ = n0 + kc) {n : Int32} {N K idx : Nat} {Cn : String} (hK : 14 < K) (ht : (cyT cy)[K - 12]? = some (cy (K - 12), .object Cn)) (h1 : Cond.classLink own idx Cn ∈ tg) (h2 : Cond.arrayOver (.object Cn) ∈ nws) (hn0 : ¬ n < 0) (hN : n.toNatClampNeg = N) (hN2 : N ≤ 100000) (hR1 : kc + 1 ≤ R.cells) (hR2 : ks + N ≤ R.slots) (d : decode cc pc = .ok (.anewarray idx, 3)) (k : V p l e R s m args below meth c D (inC ad) nL Q (kc + 1) (ks + N) (wc cy ad (nwC σ K N)) (pc + 3) ls (.ref (ad (49 + ndC σ)) :: st)) : V p l e R s m args below meth c D (inC ad) nL Q kc ks (wc cy ad σ) pc ls (.int n :: st) := fun H locs la hP hD hS hl => by
  refine va_newq C.1 C.2.1 C.2.2.2.1 (C.2.2.2.2.1 _ h1) (C.2.2.2.2.2.2.2.2 _ h2) C.2.2.2.2.2.2.2.1 hP hD hS (fun q h => r_in hA (hz ▸ h)) hn0 hN (by omega) hR1 hR2 d (fun q cA H1 hK1 hP1 hD1 hS1 => ?_)
  intro T hT X
  have hb : H1.size ≤ ad (49 + ndC σ) + 1 := by
    have := X.heapSize
    rw [hT] at this
    rw [hn, ad_at hA, ← hz]; omega
  have hq := r_q hA hP1 hD1 hb
  subst hq
  have hc : cA = cy (K - 12) := cy_eq C.2.2.2.2.2.2.2.1 ht hK1
  subst hc
  have e := wc_nw cy ad σ K N (nw_ref cy ad σ N hK)
  rw [e] at hP1 hD1
  exact k H1 locs la hP1 hD1 hS1 hl T hT X
theorem r_obj (C : vC p s m args meth c cc nL ret own D (cyT cy)) {idx a : Nat} {ws : va_W} (h1 : Cond.methodLink own idx objectInit ∈ tg) (h2 : Cond.instanceMethod objectInit ∈ tg) (h3 : Cond.code objectInit ⟨#[0xb1]⟩ 1 none ∈ tg) (hfr : 1 ≤ R.frames) (hlo : (st.map fun v => v.category).sum + 12 ≤ R.locals) (d : decode cc pc = .ok (.invokespecial idx, 3)) (k : V p l e R s m args below meth c D (inC ad) nL Q kc ks ws (pc + 3) ls st) : V p l e R s m args below meth c D (inC ad) nL Q kc ks ws pc ls (.ref a :: st) := fun H locs la hP hD hS hl => W.objInit C.1 C.2.1 C.2.2.2.1 (C.2.2.2.2.1 _ h1) (C.2.2.2.2.1 _ h2) (C.2.2.2.2.1 _ h3) rfl (hl.1.trans C.2.2.1.symm) rfl d hfr (by have h9 : 2 * (F0 m pc la (Value.ref a :: st)).monitorRoom = 0 := rfl; omega) (W.eq (g2 := F0 m (pc + 3) la st) rfl (k H locs la hP hD hS hl))
/-- a final field, in the constructor -/
def fF (ci k : Nat) (ty : FieldType) : Prop := ∃ (Cn : String) (Tt : u_T) (N : Nat) (ty0 : Nat → FieldType), vwCl[ci]? = some (Cn, Tt, N) ∧ (∀ k, k < N → parseFieldDescriptor (Tt k).2.2.1 = some (ty0 k)) ∧ (∀ a, a < N → ∀ b, b < N → a ≠ b → (Tt a).2.1 ≠ (Tt b).2.1) ∧ (Tt k).2.2.2 = true ∧ parseFieldDescriptor (Tt k).2.2.1 = some ty
theorem r_putF (C : vC p s m args meth c cc nL ret own D (cyT cy)) {idx ci k j : Nat} {ty : FieldType} (hi : meth.name = "<init>") (r : Option Nat) (h : fC own idx ci k) (ho' : ∃ Tt N, vwCl[ci]? = some (own, Tt, N)) (hw : fF ci k ty) (ht : refKind ty = true) (hr : isR ci k = true) (hs : 49 ≤ j) (ho : okc σ j ci = true) (d : decode cc pc = .ok (.putfield idx, 3)) (kk : V p l e R s m args below meth c D (inC ad) nL Q kc ks (wc cy ad (sR σ j k r)) (pc + 3) ls st) : V p l e R s m args below meth c D (inC ad) nL Q kc ks (wc cy ad σ) pc ls (va_rf (r.map ad) :: .ref (ad j) :: st) := by
  obtain ⟨Cn, Tt, N, ⟨h1, h2, h3, h4, h5, h6⟩, h7⟩ := h
  obtain ⟨Cn', Tt', N', ty0, g1, g2, g3, g4, g5⟩ := hw
  obtain ⟨rfl, rfl, rfl⟩ : Cn = Cn' ∧ Tt = Tt' ∧ N = N' := by
    have := h1.symm.trans g1
    simp only [Option.some.injEq, Prod.mk.injEq] at this
    exact this
  obtain ⟨Tt2, N2, k1⟩ := ho'
  obtain rfl : Cn = own := by
    have := h1.symm.trans k1
    simp only [Option.some.injEq, Prod.mk.injEq] at this
    exact this.1
  have e := wc_sR cy ad σ r ho h5 hr (srf_ge hs k)
  exact fun H locs la hP hD hS hl => va_putF C.1 C.2.1 C.2.2.2.2.1 h2 ty0 g2 g3 C.2.2.2.1 C.2.2.2.2.2.2.2.1 hP hD hS j (wc_obj cy ad σ ho h5) h1 k h3 (C.2.2.2.2.1 _ h7) (fun x h => by rw [h6] at h; exact h) g4 hi h6 g5 (rf_n ht _) (rf_f ht _) (by simp [← h4, h3]) d (fun H1 locs1 hP1 hD1 hS1 => kk H1 locs1 la (e ▸ hP1) (e ▸ hD1) hS1 hl)
theorem r_run {mc ms kc' : Nat} {rest : List Value} {r : Option Value} {σ' : CS} {a : Array Value} (hA : adOK ad) (hz : s.heap.size = ad (49 + n0)) (hn : ndC σ = n0 + kc) (hn' : ndC σ' = n0 + kc') (hr : ∀ (H : Heap) (locs : List Loc) (la : Array Slot), H.size = ad (49 + ndC σ) → va_P D vwCl (wc cy ad σ) H → lv_has la nL ls → va_Run p l e R s m args below meth c H locs kc ks mc ms (F0 m pc la st) rest (vQA D cy ad r σ' a) (inC ad)) (k : V p l e R s m args below meth c D (inC ad) nL Q kc' (ks + ms) (wc cy ad σ') (pc + 3) ls (r.toList ++ rest)) : V p l e R s m args below meth c D (inC ad) nL Q kc ks (wc cy ad σ) pc ls st := fun H locs la hP hD hS hl => by
  intro T hT X
  have hb : H.size = ad (49 + ndC σ) := sz_of hA hz hn hP hS (by have := X.heapSize; rw [hT] at this; exact this)
  obtain ⟨v, st₀, t, T', L, h0, X', hL, e1, e2, ⟨hv, hp, hs, hz9, hk⟩, stp⟩ := hr H locs la hb hP hl T hT X
  cases hv
  rw [h0] at hz9 hk
  have X2 : Stand p l e R s m args below meth c T' (locs ++ L) kc' (ks + ms) := { X' with same := ⟨X'.same.1, X'.same.2.1, (by
    have e3 : T'.heap.size = s.heap.size + kc' := by rw [e1, hs, hn', ad_at hA, hz]
    show T'.heap.size ≤ s.heap.size + kc'
    omega), X'.same.2.2.2⟩ }
  obtain ⟨t2, a1, b1⟩ := k T'.heap (locs ++ L) la (by rw [e1]; exact hp) (wc_D hA cy σ') ⟨Nat.le_trans hS.1 (by rw [e1]; exact hz9), fun q h1 h2 => by rw [e1, hk q (Nat.lt_of_lt_of_le h1 hS.1) h2]; exact hS.2.1 q h1 h2, fun q hq => by
      rcases List.mem_append.mp hq with h | h
      · exact hS.2.2 q h
      · exact hL q h⟩ hl T' rfl X2
  exact ⟨t2, stp t2 a1, b1⟩
theorem r_pc {as : List Value} {σ : CS} : FrameBlind (va_Pc as (fun U => va_P D vwCl (wc cy ad σ) U.heap ∧ va_K D vwCl (cyT cy) U ∧ NW U ∧ U.heap.size = ad (49 + ndC σ))) := by
  intro a U g mk q
  obtain ⟨q0, qP, qK, qN, qs⟩ := q
  exact ⟨q0, qP, va_K.moved (u := U) (U := U.calling g mk a) (Vm.Alike.refl U.vm) qK, NW.same (u := U) (U := U.calling g mk a) rfl qN, qs⟩
theorem r_call (C : vC p s m args meth c cc nL ret own D (cyT cy)) (hA : adOK ad) (hz : s.heap.size = ad (49 + n0)) (hn : ndC σ = n0 + kc) {y : MethodName} {bytes : ByteArray} {maxL n idx fr lo mc ms ci j kc' N : Nat} {ret' : Option FieldType} {Cn : String} {Tt : u_T} {r : Option Value} {σ' : CS} (As rest : List Value) (hM : MVA l D cy ad y bytes maxL ret' fr lo mc ms (.ref (ad j) :: As) σ r σ') (hn' : ndC σ' = n0 + kc') (hY : vY Cn y bytes maxL ret' n) (hc : vwCl[ci]? = some (Cn, Tt, N)) (hci : ci < 11) (ho : okc σ j ci = true) (hlk : Cond.methodLink own idx y ∈ tg) (hR : fr + 1 ≤ R.frames ∧ 8 + (maxL + 11) + lo ≤ R.locals) (hf : kc + mc ≤ R.cells ∧ ks + ms ≤ R.slots) (hnn : As.length = n) (hst : st = As.reverse ++ .ref (ad j) :: rest) (hcat : (rest.map fun v => v.category).sum ≤ 8) (d : decode cc pc = .ok (.invokevirtual idx, 3)) (k : V p l e R s m args below meth c D (inC ad) nL Q kc' (ks + ms) (wc cy ad σ') (pc + 3) ls (r.toList ++ rest)) : V p l e R s m args below meth c D (inC ad) nL Q kc ks (wc cy ad σ) pc ls st := by
  obtain ⟨y1, y2, y3, y4, y5, y6, y7, y8⟩ := hY
  subst hst
  refine r_run (mc := mc) (rest := rest) (r := r) (σ' := σ') (a := (Value.ref (ad j) :: As).toArray) hA hz hn hn' (fun H locs la hb hP hl => ?_) k
  refine va_runV (Ts := tg) (C := Cn) (n := n) (bytes := bytes) (maxL := maxL) (ret := ret') ⟨C.1, C.2.1, C.2.2.1, C.2.2.2.1, C.2.2.2.2.1⟩ hM (cwV n C.2.2.2.2.1 ?_ rfl rfl rfl ⟨y5, y6, y7, y8⟩ hR) ⟨r_pc, ?_, ?_⟩ rfl hnn hl.1 rfl (lv_room hcat) d hf
  · intro w hw
    rcases List.mem_append.mp hw with h | h
    · simp only [List.mem_cons, List.not_mem_nil, or_false] at h
      rcases h with rfl | rfl | rfl | rfl
      · exact tg_w hlk
      · exact tg_w y1
      · exact tg_w y2
      · exact tg_w y3
    · exact tg_code y4 w h
  · exact va_recv C.2.2.2.2.2.2.2.1 hP hc (wc_obj cy ad σ ho hci)
  · intro U hU hW
    exact ⟨rfl, by rw [hU]; exact hP, va_K.moved hW.alike C.2.2.2.2.2.2.2.1, NW.warm hW C.2.2.2.2.2.2.2.2, by rw [hU]; exact hb⟩
/-- the words of a constructor -/
def vYI (y : MethodName) (bytes : ByteArray) (maxL n : Nat) : Prop := Cond.instanceMethod y ∈ tg ∧ Cond.initialized y.cls ∈ tg ∧ Cond.code y bytes maxL none ∈ tg ∧ y.name = "<init>" ∧ y.cls ≠ "java/lang/invoke/MethodHandle" ∧ y.cls ≠ "java/lang/invoke/VarHandle" ∧ (parseMethodDescriptor y.desc).map (fun d => d.parameters.length) = some n
theorem r_init (C : vC p s m args meth c cc nL ret own D (cyT cy)) (hA : adOK ad) (hz : s.heap.size = ad (49 + n0)) (hn : ndC σ = n0 + kc) {y : MethodName} {bytes : ByteArray} {maxL n idx fr lo mc ms j kc' : Nat} {σ' : CS} (As rest : List Value) (hM : MVA l D cy ad y bytes maxL none fr lo mc ms (.ref (ad j) :: As) σ none σ') (hn' : ndC σ' = n0 + kc') (hY : vYI y bytes maxL n) (hlk : Cond.methodLink own idx y ∈ tg) (hR : fr + 1 ≤ R.frames ∧ 8 + (maxL + 11) + lo ≤ R.locals) (hf : kc + mc ≤ R.cells ∧ ks + ms ≤ R.slots) (hnn : As.length = n) (hst : st = As.reverse ++ .ref (ad j) :: rest) (hcat : (rest.map fun v => v.category).sum ≤ 8) (d : decode cc pc = .ok (.invokespecial idx, 3)) (k : V p l e R s m args below meth c D (inC ad) nL Q kc' (ks + ms) (wc cy ad σ') (pc + 3) ls rest) : V p l e R s m args below meth c D (inC ad) nL Q kc ks (wc cy ad σ) pc ls st := by
  obtain ⟨y1, y3, y4, y5, y6, y7, y8⟩ := hY
  subst hst
  refine r_run (mc := mc) (rest := rest) (r := none) (σ' := σ') (a := (Value.ref (ad j) :: As).toArray) hA hz hn hn' (fun H locs la hb hP hl => ?_) k
  refine va_runI (Ts := tg) (n := n) (bytes := bytes) (maxL := maxL) ⟨C.1, C.2.1, C.2.2.1, C.2.2.2.1, C.2.2.2.2.1⟩ hM (cwI n C.2.2.2.2.1 (tg_code y4) rfl rfl rfl (C.2.2.2.2.1 _ y3) (C.2.2.2.2.1 _ hlk) (C.2.2.2.2.1 _ y1) y5 ⟨y6, y7, y8⟩ hR) ⟨r_pc, ?_⟩ rfl hnn hl.1 rfl (lv_room hcat) d hf
  intro U hU hW
  exact ⟨rfl, by rw [hU]; exact hP, va_K.moved hW.alike C.2.2.2.2.2.2.2.1, NW.warm hW C.2.2.2.2.2.2.2.2, by rw [hU]; exact hb⟩
theorem r_initN (C : vC p s m args meth c cc nL ret own D (cyT cy)) (hA : adOK ad) (hz : s.heap.size = ad (49 + n0)) (hn : ndC σ = n0 + kc) {y : MethodName} {bytes : ByteArray} {maxL n idx fr lo mc ms j kc' : Nat} {host : String} {σ' : CS} (As rest : List Value) (hM : MVA l D cy ad y bytes maxL none fr lo mc ms (.ref (ad j) :: As) σ none σ') (hn' : ndC σ' = n0 + kc') (hY : vYI y bytes maxL n) (hlk : Cond.methodLinkNest own idx y host ∈ nws) (hR : fr + 1 ≤ R.frames ∧ 8 + (maxL + 11) + lo ≤ R.locals) (hf : kc + mc ≤ R.cells ∧ ks + ms ≤ R.slots) (hnn : As.length = n) (hst : st = As.reverse ++ .ref (ad j) :: rest) (hcat : (rest.map fun v => v.category).sum ≤ 8) (d : decode cc pc = .ok (.invokespecial idx, 3)) (k : V p l e R s m args below meth c D (inC ad) nL Q kc' (ks + ms) (wc cy ad σ') (pc + 3) ls rest) : V p l e R s m args below meth c D (inC ad) nL Q kc ks (wc cy ad σ) pc ls st := by
  obtain ⟨y1, y3, y4, y5, y6, y7, y8⟩ := hY
  subst hst
  refine r_run (mc := mc) (rest := rest) (r := none) (σ' := σ') (a := (Value.ref (ad j) :: As).toArray) hA hz hn hn' (fun H locs la hb hP hl => ?_) k
  refine va_runIN (Ts := tg) (n := n) (bytes := bytes) (maxL := maxL) ⟨C.1, C.2.1, C.2.2.1, C.2.2.2.1, C.2.2.2.2.1⟩ hM ⟨va_cnB n C.2.2.2.2.1 (tg_code y4) rfl rfl rfl (C.2.2.2.2.2.2.2.2 _ hlk) (C.2.2.2.2.1 _ y3) ⟨y6, y7, y8⟩ hR, y5, C.2.2.2.2.1 _ y1⟩ ⟨r_pc, ?_⟩ rfl hnn hl.1 rfl (lv_room hcat) d hf
  intro U hU hW
  exact ⟨rfl, by rw [hU]; exact hP, va_K.moved hW.alike C.2.2.2.2.2.2.2.1, NW.warm hW C.2.2.2.2.2.2.2.2, by rw [hU]; exact hb⟩
theorem r_callS (C : vC p s m args meth c cc nL ret own D (cyT cy)) (hA : adOK ad) (hz : s.heap.size = ad (49 + n0)) (hn : ndC σ = n0 + kc) {y : MethodName} {bytes : ByteArray} {maxL n idx fr lo mc ms kc' : Nat} {ret' : Option FieldType} {r : Option Value} {σ' : CS} (As rest : List Value) (hM : MVA l D cy ad y bytes maxL ret' fr lo mc ms As σ r σ') (hn' : ndC σ' = n0 + kc') (hY : vYS y.cls y bytes maxL ret' n) (hlk : Cond.methodLink own idx y ∈ tg) (hR : fr + 1 ≤ R.frames ∧ 8 + (maxL + 11) + lo ≤ R.locals) (hf : kc + mc ≤ R.cells ∧ ks + ms ≤ R.slots) (hnn : As.length = n) (hst : st = As.reverse ++ rest) (hcat : (rest.map fun v => v.category).sum ≤ 8) (d : decode cc pc = .ok (.invokestatic idx, 3)) (k : V p l e R s m args below meth c D (inC ad) nL Q kc' (ks + ms) (wc cy ad σ') (pc + 3) ls (r.toList ++ rest)) : V p l e R s m args below meth c D (inC ad) nL Q kc ks (wc cy ad σ) pc ls st := by
  obtain ⟨y1, y3, y4, y5, y6, y7, y8⟩ := hY
  subst hst
  refine r_run (mc := mc) (rest := rest) (r := r) (σ' := σ') (a := As.toArray) hA hz hn hn' (fun H locs la hb hP hl => ?_) k
  refine va_runS (Ts := tg) (n := n) (bytes := bytes) (maxL := maxL) (ret := ret') ⟨C.1, C.2.1, C.2.2.1, C.2.2.2.1, C.2.2.2.2.1⟩ hM ⟨callB_of n C.2.2.2.2.1 (tg_code y4) rfl rfl rfl (C.2.2.2.2.1 _ y3) (C.2.2.2.2.1 _ hlk) ⟨y6, y7, y8⟩ hR, C.2.2.2.2.1 _ y1⟩ ⟨r_pc, ?_⟩ rfl hnn hl.1 rfl (lv_room hcat) d hf
  intro U hU hW
  exact ⟨rfl, by rw [hU]; exact hP, va_K.moved hW.alike C.2.2.2.2.2.2.2.1, NW.warm hW C.2.2.2.2.2.2.2.2, by rw [hU]; exact hb⟩
/-- the ends -/
theorem r_end {mc ms : Nat} {σ' : CS} {r : Option Value} (hA : adOK ad) (hz : s.heap.size = ad (49 + n0)) (hn : ndC σ = n0 + kc) (h1 : kc ≤ mc) (h2 : ks ≤ ms) (hw : ∀ (H : Heap) (locs : List Loc) (la : Array Slot), H.size = ad (49 + ndC σ) → va_P D vwCl (wc cy ad σ) H → va_S (inC ad) s.heap H locs → W p l e R s m args below meth c H locs mc ms (MQ below (vQA D cy ad r σ') args s mc ms (inC ad)) (F0 m pc la st)) : V p l e R s m args below meth c D (inC ad) nL (MQ below (vQA D cy ad r σ') args s mc ms (inC ad)) kc ks (wc cy ad σ) pc ls st := fun H locs la hP hD hS hl => by
  intro T hT X
  have hb : H.size = ad (49 + ndC σ) := sz_of hA hz hn hP hS (by have := X.heapSize; rw [hT] at this; exact this)
  exact W.widen h1 h2 (hw H locs la hb hP hS) T hT X
theorem r_vret (C : vC p s m args meth c cc nL none own D (cyT cy)) {mc ms : Nat} (hA : adOK ad) (hz : s.heap.size = ad (49 + n0)) (hn : ndC σ = n0 + kc) (h1 : kc ≤ mc) (h2 : ks ≤ ms) (d : decode cc pc = .ok (.return_, 1)) : V p l e R s m args below meth c D (inC ad) nL (MQ below (vQA D cy ad none σ) args s mc ms (inC ad)) kc ks (wc cy ad σ) pc ls [] :=
  r_end hA hz hn h1 h2 (fun H locs la hb hP hS => W.vret C.1 C.2.1 C.2.2.2.2.2.1 (fun t ht hW => ⟨rfl, by rw [ht]; exact hP, by rw [ht]; exact hb, hS.F ht⟩) hS.2.2 d C.2.2.2.2.2.2.1)
theorem r_iret (C : vC p s m args meth c cc nL (some .int) own D (cyT cy)) {mc ms : Nat} {v : Int32} (hA : adOK ad) (hz : s.heap.size = ad (49 + n0)) (hn : ndC σ = n0 + kc) (h1 : kc ≤ mc) (h2 : ks ≤ ms) (d : decode cc pc = .ok (.ireturn, 1)) : V p l e R s m args below meth c D (inC ad) nL (MQ below (vQA D cy ad (some (.int v)) σ) args s mc ms (inC ad)) kc ks (wc cy ad σ) pc ls [.int v] :=
  r_end hA hz hn h1 h2 (fun H locs la hb hP hS => W.iret C.1 C.2.1 C.2.2.2.2.2.1 (fun t ht hW => ⟨rfl, by rw [ht]; exact hP, by rw [ht]; exact hb, hS.F ht⟩) hS.2.2 d C.2.2.2.2.2.2.1)
theorem r_aret (C : vC p s m args meth c cc nL ret own D (cyT cy)) {rt : FieldType} (hrt : ret = some rt) (hk : (∃ n, rt = .object n) ∨ ∃ t, rt = .array t) (r : Option Nat) {mc ms : Nat} (hA : adOK ad) (hz : s.heap.size = ad (49 + n0)) (hn : ndC σ = n0 + kc) (h1 : kc ≤ mc) (h2 : ks ≤ ms) (d : decode cc pc = .ok (.areturn, 1)) : V p l e R s m args below meth c D (inC ad) nL (MQ below (vQA D cy ad (some (va_rf (r.map ad))) σ) args s mc ms (inC ad)) kc ks (wc cy ad σ) pc ls [va_rf (r.map ad)] :=
  r_end hA hz hn h1 h2 (fun H locs la hb hP hS => W.aret C.1 C.2.1 (C.2.2.2.2.2.1.trans hrt) hk (by cases r with | none => exact Or.inl rfl | some a => exact Or.inr ⟨_, rfl⟩) (fun t ht hW => ⟨rfl, by rw [ht]; exact hP, by rw [ht]; exact hb, hS.F ht⟩) hS.2.2 d C.2.2.2.2.2.2.1)
end AL

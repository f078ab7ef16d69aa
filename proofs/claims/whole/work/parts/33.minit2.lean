def mz : MS := (fun _ => 0, fun _ _ => 0, fun _ => 0)
def Lmi1 : Nat → Int32 → MS → Option MS
  | 0, _, _ => none
  | n + 1, k, σ => if 20 ≤ k then some σ else (f_lays 0 k 0 0 σ).bind fun q => Lmi1 n (k + 1) q.2
def Lmi2 : Nat → Int32 → MS → Option MS
  | 0, _, _ => none
  | n + 1, k, σ => if 10 ≤ k then some σ else if ix k (aln 11) then Lmi2 n (k + 1) (setA σ 11 (k : Int32).toNatClampNeg k) else none
def mi_s1 : MS := setA (setA (setF mz 21 1) 9 (0 : Int32).toNatClampNeg (-9)) 9 (1 : Int32).toNatClampNeg (-9)
def f_minit : Option MS := (Lmi1 100 0 mi_s1).bind fun σ => Lmi2 100 0 σ
theorem f_minit_ok : f_minit.isSome = true := by decide +kernel
/-- the reference's first state -/
def mu0 : MS := f_minit.get f_minit_ok
theorem f_minit_eq : f_minit = some mu0 := (Option.some_get f_minit_ok).symm
def vQM (D : va_G) (cy : Nat → ClassId) (ad : Nat → Nat) (σ : MS) : Array Value → State → Outcome → State → Prop := fun _ st oc t => oc = .returned none ∧ va_P D vwCl (wm cy ad σ) t.heap ∧ t.heap.size = ad 34 ∧ va_F (geA (ad 0)) st t
theorem adC_inj {ad : Nat → Nat} (h : adC ad) : ∀ i j, i < 34 → j < 34 → ad i = ad j → i = j := fun i j _ _ e => by rw [h i, h j] at e; omega
theorem adC_sub {ad : Nat → Nat} (h : adC ad) : ∀ q, inAd ad q → geA (ad 0) q := fun q ⟨j, _, e⟩ => by rw [e, h j]; exact Nat.le_add_right _ _
theorem adC_D {ad : Nat → Nat} (h : adC ad) (cy : Nat → ClassId) (σ : MS) : va_D (geA (ad 0)) (wm cy ad σ) := (wm_inj (adC_inj h) cy σ).weaken (fun _ _ _ hq => adC_sub h _ hq)
section MI2
variable {p : Program} {l : Launch} {e : Env} {s : State} {m : MethodId} {args : Array Value} {below : List Frame} {meth : Method} {c : Code} {D : va_G} {cy : Nat → ClassId} {ad : Nat → Nat}
abbrev VMI (p : Program) (l : Launch) (e : Env) (s : State) (m : MethodId) (args : Array Value) (below : List Frame) (meth : Method) (c : Code) (D : va_G) (cy : Nat → ClassId) (ad : Nat → Nat) (kc ks : Nat) (ws : va_W) (pc : Nat) (ls : List (Nat × Value)) (st : List Value) : Prop := V p l e { frames := 2, cells := 33, slots := 16130, locals := 60 } s m args below meth c D (geA (ad 0)) 2 (MQ below (vQM D cy ad mu0) args s 33 16130 (geA (ad 0))) kc ks ws pc ls st
theorem mi_l2 (C : vC p s m args meth c cX11_init 2 none RX11 D (cyT cy)) (hC : adC ad) (hz : s.heap.size = ad 1) : ∀ (n : Nat) (k : Int32) (σ : MS), Lmi2 n k σ = some mu0 → VMI p l e s m args below meth c D cy ad 33 16130 (wm cy ad σ) 315 [(0, .ref (ad 0)), (1, .int k)] [] := by
  intro n
  induction n with
  | zero => intro k σ h; rw [Lmi2.eq_1] at h; cases h
  | succ n ih =>
    intro k σ h
    rw [Lmi2.eq_2] at h
    refine v_iload_n C 1 dX11_init_315 rfl rfl ?_
    refine v_bipush C 10 dX11_init_316 (by decide) ?_
    refine v_icmp_ge C 334 dX11_init_318 (by decide) (fun c1 => ?_) (fun c1 => ?_)
    · rw [if_pos c1] at h
      obtain rfl := Option.some.inj h
      intro H locs la hP hD hS hl T hT X
      have hsz : H.size = ad 34 := by
        have h1 := X.heapSize
        rw [hT, hz] at h1
        have h2 := (hP 33 _ (wm_at cy ad mu0 (by decide))).lt
        have e1 := hC 1
        have e2 := hC 33
        have e3 := hC 34
        simp only at h2
        omega
      exact W.vret C.1 C.2.1 C.2.2.2.2.2.1 (fun t ht hW => ⟨rfl, by rw [ht]; exact hP, by rw [ht]; exact hsz, hS.F ht⟩) hS.2.2 dX11_init_334 C.2.2.2.2.2.2.1 T hT X
    · rw [if_neg c1] at h
      obtain ⟨g1, h⟩ := gd_of h
      refine v_aload_n C 0 dX11_init_321 rfl rfl ?_
      refine n_getR C fl_42 dX11_init_322 ?_
      refine v_iload_n C 1 dX11_init_325 rfl rfl ?_
      refine v_iload_n C 1 dX11_init_326 rfl rfl ?_
      refine vm_iast C 11 iI_11 (ix_in g1) dX11_init_327 ?_
      refine v_iinc C (k + 1) 1 [(1, .int (k + 1)), (0, .ref (ad 0))] dX11_init_328 rfl rfl (by decide) rfl ?_
      refine v_goto C 315 dX11_init_331 (by decide) ?_
      exact v_sub [1, 0] rfl (ih _ _ h)
theorem mi_l1 (C : vC p s m args meth c cX11_init 2 none RX11 D (cyT cy)) (hC : adC ad) (hz : s.heap.size = ad 1) : ∀ (n : Nat) (k : Int32) (σ : MS), ((Lmi1 n k σ).bind fun σ => Lmi2 100 0 σ) = some mu0 → VMI p l e s m args below meth c D cy ad 33 16130 (wm cy ad σ) 292 [(0, .ref (ad 0)), (1, .int k)] [] := by
  intro n
  induction n with
  | zero => intro k σ h; rw [Lmi1.eq_1] at h; cases h
  | succ n ih =>
    intro k σ h
    rw [Lmi1.eq_2] at h
    refine v_iload_n C 1 dX11_init_292 rfl rfl ?_
    refine v_bipush C 20 dX11_init_293 (by decide) ?_
    refine v_icmp_ge C 313 dX11_init_295 (by decide) (fun c1 => ?_) (fun c1 => ?_)
    · rw [if_pos c1] at h
      refine v_iconst C 0 dX11_init_313 (by decide) ?_
      refine v_istore_n C [(1, .int 0), (0, .ref (ad 0))] dX11_init_314 rfl (by decide) rfl ?_
      exact v_sub [1, 0] rfl (mi_l2 C hC hz 100 0 σ h)
    · rw [if_neg c1] at h
      obtain ⟨σ2, h2, h3⟩ := bd_of h
      obtain ⟨q1, hq1, h4⟩ := bd_of h2
      refine v_aload_n C 0 dX11_init_298 rfl rfl ?_
      refine v_iconst C 0 dX11_init_299 (by decide) ?_
      refine v_iload_n C 1 dX11_init_300 rfl rfl ?_
      refine v_iconst C 0 dX11_init_301 (by decide) ?_
      refine v_iconst C 0 dX11_init_302 (by decide) ?_
      refine mi_run (rest := []) (r := some (.int q1.1)) (ws' := wm cy ad q1.2) (mc := 0) (ms := 0) (a := #[.ref (ad 0), .int 0, .int k, .int 0, .int 0]) (adC_sub hC) (fun H locs la hP hl => ?_) (fun _ => adC_D hC cy _) ?_
      · obtain ⟨y1, y2, y3, y4, y5, y6, y7, y8⟩ := hY_lays
        refine va_runV (As := [.int 0, .int k, .int 0, .int 0]) (Ts := tg) (C := RX11) (n := 4) (bytes := cX11_lays) (maxL := 5) (ret := some .int) ⟨C.1, C.2.1, C.2.2.1, C.2.2.2.1, C.2.2.2.2.1⟩ (c_lays (adC_inj hC) 0 k 0 0 σ hq1) (cwV 4 C.2.2.2.2.1 ?_ rfl rfl rfl ⟨y5, y6, y7, y8⟩ ⟨Nat.le_of_ble_eq_true rfl, Nat.le_of_ble_eq_true rfl⟩) ⟨?_, ?_, ?_⟩ rfl rfl hl.1 rfl (lv_room (Nat.le_of_ble_eq_true rfl)) dX11_init_303 ⟨Nat.le_of_ble_eq_true rfl, Nat.le_of_ble_eq_true rfl⟩
        · intro w hw
          rcases List.mem_append.mp hw with h | h
          · simp only [List.mem_cons, List.not_mem_nil, or_false] at h
            rcases h with rfl | rfl | rfl | rfl
            · exact tg_w ml_115
            · exact tg_w y1
            · exact tg_w y2
            · exact tg_w y3
          · exact tg_code y4 w h
        · intro a U g mk q
          obtain ⟨q0, qP, qK, qN⟩ := q
          exact ⟨q0, qP, va_K.moved (u := U) (U := U.calling g mk a) (Vm.Alike.refl U.vm) qK, NW.same (u := U) (U := U.calling g mk a) rfl qN⟩
        · exact va_recv C.2.2.2.2.2.2.2.1 hP (show vwCl[11]? = some (RX11, TX11, 62) from rfl) (wm_at cy ad σ (j := 0) (by decide))
        · intro U hU hW
          exact ⟨rfl, by rw [hU]; exact hP, va_K.moved hW.alike C.2.2.2.2.2.2.2.1, NW.warm hW C.2.2.2.2.2.2.2.2⟩
      · refine v_pop C dX11_init_306 rfl ?_
        refine v_iinc C (k + 1) 1 [(1, .int (k + 1)), (0, .ref (ad 0))] dX11_init_307 rfl rfl (by decide) rfl ?_
        refine v_goto C 292 dX11_init_310 (by decide) ?_
        exact v_sub [1, 0] rfl (ih _ _ (by rw [h4]; exact h3))
end MI2
theorem mr_1 : ∀ i, mref i = 0 + 1 → i = 0 := by
  intro i h
  unfold mref at h
  split at h <;> first | rfl | (simp at h)
theorem mr_2 : ∀ i, mref i = 1 + 1 → i = 2 := by
  intro i h
  unfold mref at h
  split at h <;> first | rfl | (simp at h)
theorem mr_3 : ∀ i, mref i = 2 + 1 → i = 6 := by
  intro i h
  unfold mref at h
  split at h <;> first | rfl | (simp at h)
theorem mr_4 : ∀ i, mref i = 3 + 1 → i = 11 := by
  intro i h
  unfold mref at h
  split at h <;> first | rfl | (simp at h)
theorem mr_5 : ∀ i, mref i = 4 + 1 → i = 12 := by
  intro i h
  unfold mref at h
  split at h <;> first | rfl | (simp at h)
theorem mr_6 : ∀ i, mref i = 5 + 1 → i = 13 := by
  intro i h
  unfold mref at h
  split at h <;> first | rfl | (simp at h)
theorem mr_7 : ∀ i, mref i = 6 + 1 → i = 14 := by
  intro i h
  unfold mref at h
  split at h <;> first | rfl | (simp at h)
theorem mr_8 : ∀ i, mref i = 7 + 1 → i = 16 := by
  intro i h
  unfold mref at h
  split at h <;> first | rfl | (simp at h)
theorem mr_9 : ∀ i, mref i = 8 + 1 → i = 17 := by
  intro i h
  unfold mref at h
  split at h <;> first | rfl | (simp at h)
theorem mr_10 : ∀ i, mref i = 9 + 1 → i = 18 := by
  intro i h
  unfold mref at h
  split at h <;> first | rfl | (simp at h)
theorem mr_11 : ∀ i, mref i = 10 + 1 → i = 20 := by
  intro i h
  unfold mref at h
  split at h <;> first | rfl | (simp at h)
theorem mr_12 : ∀ i, mref i = 11 + 1 → i = 22 := by
  intro i h
  unfold mref at h
  split at h <;> first | rfl | (simp at h)
theorem mr_13 : ∀ i, mref i = 12 + 1 → i = 23 := by
  intro i h
  unfold mref at h
  split at h <;> first | rfl | (simp at h)
theorem mr_14 : ∀ i, mref i = 13 + 1 → i = 25 := by
  intro i h
  unfold mref at h
  split at h <;> first | rfl | (simp at h)
theorem mr_15 : ∀ i, mref i = 14 + 1 → i = 26 := by
  intro i h
  unfold mref at h
  split at h <;> first | rfl | (simp at h)
theorem mr_16 : ∀ i, mref i = 15 + 1 → i = 28 := by
  intro i h
  unfold mref at h
  split at h <;> first | rfl | (simp at h)
theorem mr_17 : ∀ i, mref i = 16 + 1 → i = 29 := by
  intro i h
  unfold mref at h
  split at h <;> first | rfl | (simp at h)
theorem mr_18 : ∀ i, mref i = 17 + 1 → i = 30 := by
  intro i h
  unfold mref at h
  split at h <;> first | rfl | (simp at h)
theorem mr_19 : ∀ i, mref i = 18 + 1 → i = 31 := by
  intro i h
  unfold mref at h
  split at h <;> first | rfl | (simp at h)
theorem mr_20 : ∀ i, mref i = 19 + 1 → i = 32 := by
  intro i h
  unfold mref at h
  split at h <;> first | rfl | (simp at h)
theorem mr_21 : ∀ i, mref i = 20 + 1 → i = 33 := by
  intro i h
  unfold mref at h
  split at h <;> first | rfl | (simp at h)
theorem mr_22 : ∀ i, mref i = 21 + 1 → i = 34 := by
  intro i h
  unfold mref at h
  split at h <;> first | rfl | (simp at h)
theorem mr_23 : ∀ i, mref i = 22 + 1 → i = 35 := by
  intro i h
  unfold mref at h
  split at h <;> first | rfl | (simp at h)
theorem mr_24 : ∀ i, mref i = 23 + 1 → i = 36 := by
  intro i h
  unfold mref at h
  split at h <;> first | rfl | (simp at h)
theorem mr_25 : ∀ i, mref i = 24 + 1 → i = 37 := by
  intro i h
  unfold mref at h
  split at h <;> first | rfl | (simp at h)
theorem mr_26 : ∀ i, mref i = 25 + 1 → i = 38 := by
  intro i h
  unfold mref at h
  split at h <;> first | rfl | (simp at h)
theorem mr_27 : ∀ i, mref i = 26 + 1 → i = 39 := by
  intro i h
  unfold mref at h
  split at h <;> first | rfl | (simp at h)
theorem mr_28 : ∀ i, mref i = 27 + 1 → i = 40 := by
  intro i h
  unfold mref at h
  split at h <;> first | rfl | (simp at h)
theorem mr_29 : ∀ i, mref i = 28 + 1 → i = 41 := by
  intro i h
  unfold mref at h
  split at h <;> first | rfl | (simp at h)
theorem mr_30 : ∀ i, mref i = 29 + 1 → i = 42 := by
  intro i h
  unfold mref at h
  split at h <;> first | rfl | (simp at h)
theorem mr_31 : ∀ i, mref i = 30 + 1 → i = 43 := by
  intro i h
  unfold mref at h
  split at h <;> first | rfl | (simp at h)
theorem mr_32 : ∀ i, mref i = 31 + 1 → i = 51 := by
  intro i h
  unfold mref at h
  split at h <;> first | rfl | (simp at h)
theorem mr_33 : ∀ i, mref i = 32 + 1 → i = 61 := by
  intro i h
  unfold mref at h
  split at h <;> first | rfl | (simp at h)
theorem r_objM {p : Program} {l : Launch} {e : Env} {R : Room} {s : State} {m : MethodId} {args : Array Value} {below : List Frame} {meth : Method} {c : Code} {Q : State → Prop} {cc : ByteArray} {nL kc ks pc : Nat} {ret : Option FieldType} {own : String} {D : va_G} {A : Nat → Prop} {ls : List (Nat × Value)} {st : List Value} {cy : Nat → ClassId} (C : vC p s m args meth c cc nL ret own D (cyT cy)) {idx a : Nat} {ws : va_W} (h1 : Cond.methodLink own idx objectInit ∈ tg) (h2 : Cond.instanceMethod objectInit ∈ tg) (h3 : Cond.code objectInit ⟨#[0xb1]⟩ 1 none ∈ tg) (hfr : 1 ≤ R.frames) (hlo : (st.map fun v => v.category).sum + 12 ≤ R.locals) (d : decode cc pc = .ok (.invokespecial idx, 3)) (k : V p l e R s m args below meth c D A nL Q kc ks ws (pc + 3) ls st) : V p l e R s m args below meth c D A nL Q kc ks ws pc ls (.ref a :: st) := fun H locs la hP hD hS hl => W.objInit C.1 C.2.1 C.2.2.2.1 (C.2.2.2.2.1 _ h1) (C.2.2.2.2.1 _ h2) (C.2.2.2.2.1 _ h3) rfl (hl.1.trans C.2.2.1.symm) rfl d hfr (by have h9 : 2 * (F0 m pc la (Value.ref a :: st)).monitorRoom = 0 := rfl; omega) (W.eq (g2 := F0 m (pc + 3) la st) rfl (k H locs la hP hD hS hl))
set_option maxHeartbeats 4000000 in
set_option maxRecDepth 20000 in
theorem mi_walk {p : Program} {l : Launch} {e : Env} {s : State} {m : MethodId} {args : Array Value} {below : List Frame} {meth : Method} {c : Code} {D : va_G} {cy : Nat → ClassId} {ad : Nat → Nat} (C : vC p s m args meth c cX11_init 2 none RX11 D (cyT cy)) (hC : adC ad) (hz : s.heap.size = ad 1) (hi : meth.name = "<init>") : VMI p l e s m args below meth c D cy ad 0 0 (wmN cy ad 0 0 mz) 0 [(0, .ref (ad 0))] [] := by
  refine v_aload_n C 0 dX11_init_0 rfl rfl ?_
  refine r_objM C mi_o oi_1 oi_2 (Nat.le_of_ble_eq_true rfl) (Nat.le_of_ble_eq_true rfl) dX11_init_1 ?_
  refine v_aload_n C 0 dX11_init_4 rfl rfl ?_
  refine v_sipush C 9400 dX11_init_5 (by decide) ?_
  refine mi_newI C hC hz (n := 0) (f := 0) rfl (by decide) (N := 9400) (by decide) (by decide) rfl (by show 0 + 1 ≤ 33; omega) (by show 0 + 9400 ≤ 16130; omega) dX11_init_8 ?_
  refine mi_putF C hi (ty := .array .int) fl_7 (f := 0) rfl mr_1 rfl (by decide +kernel) rfl dX11_init_10 ?_
  refine v_aload_n C 0 dX11_init_13 rfl rfl ?_
  refine v_bipush C 32 dX11_init_14 (by decide) ?_
  refine mi_newI C hC hz (n := 1) (f := 1) rfl (by decide) (N := 32) (by decide) (by decide) rfl (by show 1 + 1 ≤ 33; omega) (by show 9400 + 32 ≤ 16130; omega) dX11_init_16 ?_
  refine mi_putF C hi (ty := .array .int) fl_13 (f := 1) rfl mr_2 rfl (by decide +kernel) rfl dX11_init_18 ?_
  refine v_aload_n C 0 dX11_init_21 rfl rfl ?_
  refine v_iconst C 3 dX11_init_22 (by decide) ?_
  refine mi_newZ C hC hz (n := 2) (f := 2) rfl (by decide) (N := 3) (by decide) (by decide) rfl (by show 2 + 1 ≤ 33; omega) (by show 9432 + 3 ≤ 16130; omega) dX11_init_23 ?_
  refine mi_putF C hi (ty := .array .boolean) fl_16 (f := 2) rfl mr_3 rfl (by decide +kernel) rfl dX11_init_25 ?_
  refine v_aload_n C 0 dX11_init_28 rfl rfl ?_
  refine v_iconst C 4 dX11_init_29 (by decide) ?_
  refine mi_newI C hC hz (n := 3) (f := 3) rfl (by decide) (N := 4) (by decide) (by decide) rfl (by show 3 + 1 ≤ 33; omega) (by show 9435 + 4 ≤ 16130; omega) dX11_init_30 ?_
  refine mi_putF C hi (ty := .array .int) fl_20 (f := 3) rfl mr_4 rfl (by decide +kernel) rfl dX11_init_32 ?_
  refine v_aload_n C 0 dX11_init_35 rfl rfl ?_
  refine v_bipush C 8 dX11_init_36 (by decide) ?_
  refine mi_newI C hC hz (n := 4) (f := 4) rfl (by decide) (N := 8) (by decide) (by decide) rfl (by show 4 + 1 ≤ 33; omega) (by show 9439 + 8 ≤ 16130; omega) dX11_init_38 ?_
  refine mi_putF C hi (ty := .array .int) fl_23 (f := 4) rfl mr_5 rfl (by decide +kernel) rfl dX11_init_40 ?_
  refine v_aload_n C 0 dX11_init_43 rfl rfl ?_
  refine v_bipush C 8 dX11_init_44 (by decide) ?_
  refine mi_newI C hC hz (n := 5) (f := 5) rfl (by decide) (N := 8) (by decide) (by decide) rfl (by show 5 + 1 ≤ 33; omega) (by show 9447 + 8 ≤ 16130; omega) dX11_init_46 ?_
  refine mi_putF C hi (ty := .array .int) fl_26 (f := 5) rfl mr_6 rfl (by decide +kernel) rfl dX11_init_48 ?_
  refine v_aload_n C 0 dX11_init_51 rfl rfl ?_
  refine v_sipush C 816 dX11_init_52 (by decide) ?_
  refine mi_newI C hC hz (n := 6) (f := 6) rfl (by decide) (N := 816) (by decide) (by decide) rfl (by show 6 + 1 ≤ 33; omega) (by show 9455 + 816 ≤ 16130; omega) dX11_init_55 ?_
  refine mi_putF C hi (ty := .array .int) fl_29 (f := 6) rfl mr_7 rfl (by decide +kernel) rfl dX11_init_57 ?_
  refine v_aload_n C 0 dX11_init_60 rfl rfl ?_
  refine v_sipush C 1224 dX11_init_61 (by decide) ?_
  refine mi_newI C hC hz (n := 7) (f := 7) rfl (by decide) (N := 1224) (by decide) (by decide) rfl (by show 7 + 1 ≤ 33; omega) (by show 10271 + 1224 ≤ 16130; omega) dX11_init_64 ?_
  refine mi_putF C hi (ty := .array .int) fl_32 (f := 7) rfl mr_8 rfl (by decide +kernel) rfl dX11_init_66 ?_
  refine v_aload_n C 0 dX11_init_69 rfl rfl ?_
  refine v_iconst C 2 dX11_init_70 (by decide) ?_
  refine mi_newI C hC hz (n := 8) (f := 8) rfl (by decide) (N := 2) (by decide) (by decide) rfl (by show 8 + 1 ≤ 33; omega) (by show 11495 + 2 ≤ 16130; omega) dX11_init_71 ?_
  refine mi_putF C hi (ty := .array .int) fl_35 (f := 8) rfl mr_9 rfl (by decide +kernel) rfl dX11_init_73 ?_
  refine v_aload_n C 0 dX11_init_76 rfl rfl ?_
  refine v_sipush C 2400 dX11_init_77 (by decide) ?_
  refine mi_newJ C hC hz (n := 9) (f := 9) rfl (by decide) (N := 2400) (by decide) (by decide) rfl (by show 9 + 1 ≤ 33; omega) (by show 11497 + 2400 ≤ 16130; omega) dX11_init_80 ?_
  refine mi_putF C hi (ty := .array .long) fl_38 (f := 9) rfl mr_10 rfl (by decide +kernel) rfl dX11_init_82 ?_
  refine v_aload_n C 0 dX11_init_85 rfl rfl ?_
  refine v_sipush C 1200 dX11_init_86 (by decide) ?_
  refine mi_newI C hC hz (n := 10) (f := 10) rfl (by decide) (N := 1200) (by decide) (by decide) rfl (by show 10 + 1 ≤ 33; omega) (by show 13897 + 1200 ≤ 16130; omega) dX11_init_89 ?_
  refine mi_putF C hi (ty := .array .int) fl_42 (f := 10) rfl mr_11 rfl (by decide +kernel) rfl dX11_init_91 ?_
  refine v_aload_n C 0 dX11_init_94 rfl rfl ?_
  refine v_iconst C 1 dX11_init_95 (by decide) ?_
  refine mi_putI C fl_45 dX11_init_96 ?_
  refine v_aload_n C 0 dX11_init_99 rfl rfl ?_
  refine v_bipush C 60 dX11_init_100 (by decide) ?_
  refine mi_newI C hC hz (n := 11) (f := 11) rfl (by decide) (N := 60) (by decide) (by decide) rfl (by show 11 + 1 ≤ 33; omega) (by show 15097 + 60 ≤ 16130; omega) dX11_init_102 ?_
  refine mi_putF C hi (ty := .array .int) fl_49 (f := 11) rfl mr_12 rfl (by decide +kernel) rfl dX11_init_104 ?_
  refine v_aload_n C 0 dX11_init_107 rfl rfl ?_
  refine v_bipush C 60 dX11_init_108 (by decide) ?_
  refine mi_newI C hC hz (n := 12) (f := 12) rfl (by decide) (N := 60) (by decide) (by decide) rfl (by show 12 + 1 ≤ 33; omega) (by show 15157 + 60 ≤ 16130; omega) dX11_init_110 ?_
  refine mi_putF C hi (ty := .array .int) fl_52 (f := 12) rfl mr_13 rfl (by decide +kernel) rfl dX11_init_112 ?_
  refine v_aload_n C 0 dX11_init_115 rfl rfl ?_
  refine v_bipush C 60 dX11_init_116 (by decide) ?_
  refine mi_newI C hC hz (n := 13) (f := 13) rfl (by decide) (N := 60) (by decide) (by decide) rfl (by show 13 + 1 ≤ 33; omega) (by show 15217 + 60 ≤ 16130; omega) dX11_init_118 ?_
  refine mi_putF C hi (ty := .array .int) fl_55 (f := 13) rfl mr_14 rfl (by decide +kernel) rfl dX11_init_120 ?_
  refine v_aload_n C 0 dX11_init_123 rfl rfl ?_
  refine v_bipush C 60 dX11_init_124 (by decide) ?_
  refine mi_newI C hC hz (n := 14) (f := 14) rfl (by decide) (N := 60) (by decide) (by decide) rfl (by show 14 + 1 ≤ 33; omega) (by show 15277 + 60 ≤ 16130; omega) dX11_init_126 ?_
  refine mi_putF C hi (ty := .array .int) fl_58 (f := 14) rfl mr_15 rfl (by decide +kernel) rfl dX11_init_128 ?_
  refine v_aload_n C 0 dX11_init_131 rfl rfl ?_
  refine v_bipush C 60 dX11_init_132 (by decide) ?_
  refine mi_newI C hC hz (n := 15) (f := 15) rfl (by decide) (N := 60) (by decide) (by decide) rfl (by show 15 + 1 ≤ 33; omega) (by show 15337 + 60 ≤ 16130; omega) dX11_init_134 ?_
  refine mi_putF C hi (ty := .array .int) fl_61 (f := 15) rfl mr_16 rfl (by decide +kernel) rfl dX11_init_136 ?_
  refine v_aload_n C 0 dX11_init_139 rfl rfl ?_
  refine v_bipush C 60 dX11_init_140 (by decide) ?_
  refine mi_newI C hC hz (n := 16) (f := 16) rfl (by decide) (N := 60) (by decide) (by decide) rfl (by show 16 + 1 ≤ 33; omega) (by show 15397 + 60 ≤ 16130; omega) dX11_init_142 ?_
  refine mi_putF C hi (ty := .array .int) fl_64 (f := 16) rfl mr_17 rfl (by decide +kernel) rfl dX11_init_144 ?_
  refine v_aload_n C 0 dX11_init_147 rfl rfl ?_
  refine v_bipush C 60 dX11_init_148 (by decide) ?_
  refine mi_newI C hC hz (n := 17) (f := 17) rfl (by decide) (N := 60) (by decide) (by decide) rfl (by show 17 + 1 ≤ 33; omega) (by show 15457 + 60 ≤ 16130; omega) dX11_init_150 ?_
  refine mi_putF C hi (ty := .array .int) fl_67 (f := 17) rfl mr_18 rfl (by decide +kernel) rfl dX11_init_152 ?_
  refine v_aload_n C 0 dX11_init_155 rfl rfl ?_
  refine v_bipush C 60 dX11_init_156 (by decide) ?_
  refine mi_newI C hC hz (n := 18) (f := 18) rfl (by decide) (N := 60) (by decide) (by decide) rfl (by show 18 + 1 ≤ 33; omega) (by show 15517 + 60 ≤ 16130; omega) dX11_init_158 ?_
  refine mi_putF C hi (ty := .array .int) fl_70 (f := 18) rfl mr_19 rfl (by decide +kernel) rfl dX11_init_160 ?_
  refine v_aload_n C 0 dX11_init_163 rfl rfl ?_
  refine v_bipush C 60 dX11_init_164 (by decide) ?_
  refine mi_newI C hC hz (n := 19) (f := 19) rfl (by decide) (N := 60) (by decide) (by decide) rfl (by show 19 + 1 ≤ 33; omega) (by show 15577 + 60 ≤ 16130; omega) dX11_init_166 ?_
  refine mi_putF C hi (ty := .array .int) fl_73 (f := 19) rfl mr_20 rfl (by decide +kernel) rfl dX11_init_168 ?_
  refine v_aload_n C 0 dX11_init_171 rfl rfl ?_
  refine v_bipush C 60 dX11_init_172 (by decide) ?_
  refine mi_newI C hC hz (n := 20) (f := 20) rfl (by decide) (N := 60) (by decide) (by decide) rfl (by show 20 + 1 ≤ 33; omega) (by show 15637 + 60 ≤ 16130; omega) dX11_init_174 ?_
  refine mi_putF C hi (ty := .array .int) fl_76 (f := 20) rfl mr_21 rfl (by decide +kernel) rfl dX11_init_176 ?_
  refine v_aload_n C 0 dX11_init_179 rfl rfl ?_
  refine v_bipush C 60 dX11_init_180 (by decide) ?_
  refine mi_newI C hC hz (n := 21) (f := 21) rfl (by decide) (N := 60) (by decide) (by decide) rfl (by show 21 + 1 ≤ 33; omega) (by show 15697 + 60 ≤ 16130; omega) dX11_init_182 ?_
  refine mi_putF C hi (ty := .array .int) fl_79 (f := 21) rfl mr_22 rfl (by decide +kernel) rfl dX11_init_184 ?_
  refine v_aload_n C 0 dX11_init_187 rfl rfl ?_
  refine v_bipush C 40 dX11_init_188 (by decide) ?_
  refine mi_newI C hC hz (n := 22) (f := 22) rfl (by decide) (N := 40) (by decide) (by decide) rfl (by show 22 + 1 ≤ 33; omega) (by show 15757 + 40 ≤ 16130; omega) dX11_init_190 ?_
  refine mi_putF C hi (ty := .array .int) fl_82 (f := 22) rfl mr_23 rfl (by decide +kernel) rfl dX11_init_192 ?_
  refine v_aload_n C 0 dX11_init_195 rfl rfl ?_
  refine v_bipush C 40 dX11_init_196 (by decide) ?_
  refine mi_newI C hC hz (n := 23) (f := 23) rfl (by decide) (N := 40) (by decide) (by decide) rfl (by show 23 + 1 ≤ 33; omega) (by show 15797 + 40 ≤ 16130; omega) dX11_init_198 ?_
  refine mi_putF C hi (ty := .array .int) fl_85 (f := 23) rfl mr_24 rfl (by decide +kernel) rfl dX11_init_200 ?_
  refine v_aload_n C 0 dX11_init_203 rfl rfl ?_
  refine v_bipush C 40 dX11_init_204 (by decide) ?_
  refine mi_newI C hC hz (n := 24) (f := 24) rfl (by decide) (N := 40) (by decide) (by decide) rfl (by show 24 + 1 ≤ 33; omega) (by show 15837 + 40 ≤ 16130; omega) dX11_init_206 ?_
  refine mi_putF C hi (ty := .array .int) fl_88 (f := 24) rfl mr_25 rfl (by decide +kernel) rfl dX11_init_208 ?_
  refine v_aload_n C 0 dX11_init_211 rfl rfl ?_
  refine v_bipush C 40 dX11_init_212 (by decide) ?_
  refine mi_newI C hC hz (n := 25) (f := 25) rfl (by decide) (N := 40) (by decide) (by decide) rfl (by show 25 + 1 ≤ 33; omega) (by show 15877 + 40 ≤ 16130; omega) dX11_init_214 ?_
  refine mi_putF C hi (ty := .array .int) fl_91 (f := 25) rfl mr_26 rfl (by decide +kernel) rfl dX11_init_216 ?_
  refine v_aload_n C 0 dX11_init_219 rfl rfl ?_
  refine v_bipush C 40 dX11_init_220 (by decide) ?_
  refine mi_newI C hC hz (n := 26) (f := 26) rfl (by decide) (N := 40) (by decide) (by decide) rfl (by show 26 + 1 ≤ 33; omega) (by show 15917 + 40 ≤ 16130; omega) dX11_init_222 ?_
  refine mi_putF C hi (ty := .array .int) fl_94 (f := 26) rfl mr_27 rfl (by decide +kernel) rfl dX11_init_224 ?_
  refine v_aload_n C 0 dX11_init_227 rfl rfl ?_
  refine v_bipush C 40 dX11_init_228 (by decide) ?_
  refine mi_newI C hC hz (n := 27) (f := 27) rfl (by decide) (N := 40) (by decide) (by decide) rfl (by show 27 + 1 ≤ 33; omega) (by show 15957 + 40 ≤ 16130; omega) dX11_init_230 ?_
  refine mi_putF C hi (ty := .array .int) fl_97 (f := 27) rfl mr_28 rfl (by decide +kernel) rfl dX11_init_232 ?_
  refine v_aload_n C 0 dX11_init_235 rfl rfl ?_
  refine v_bipush C 40 dX11_init_236 (by decide) ?_
  refine mi_newI C hC hz (n := 28) (f := 28) rfl (by decide) (N := 40) (by decide) (by decide) rfl (by show 28 + 1 ≤ 33; omega) (by show 15997 + 40 ≤ 16130; omega) dX11_init_238 ?_
  refine mi_putF C hi (ty := .array .int) fl_100 (f := 28) rfl mr_29 rfl (by decide +kernel) rfl dX11_init_240 ?_
  refine v_aload_n C 0 dX11_init_243 rfl rfl ?_
  refine v_bipush C 40 dX11_init_244 (by decide) ?_
  refine mi_newI C hC hz (n := 29) (f := 29) rfl (by decide) (N := 40) (by decide) (by decide) rfl (by show 29 + 1 ≤ 33; omega) (by show 16037 + 40 ≤ 16130; omega) dX11_init_246 ?_
  refine mi_putF C hi (ty := .array .int) fl_103 (f := 29) rfl mr_30 rfl (by decide +kernel) rfl dX11_init_248 ?_
  refine v_aload_n C 0 dX11_init_251 rfl rfl ?_
  refine v_bipush C 40 dX11_init_252 (by decide) ?_
  refine mi_newI C hC hz (n := 30) (f := 30) rfl (by decide) (N := 40) (by decide) (by decide) rfl (by show 30 + 1 ≤ 33; omega) (by show 16077 + 40 ≤ 16130; omega) dX11_init_254 ?_
  refine mi_putF C hi (ty := .array .int) fl_106 (f := 30) rfl mr_31 rfl (by decide +kernel) rfl dX11_init_256 ?_
  refine v_aload_n C 0 dX11_init_259 rfl rfl ?_
  refine v_bipush C 10 dX11_init_260 (by decide) ?_
  refine mi_newI C hC hz (n := 31) (f := 31) rfl (by decide) (N := 10) (by decide) (by decide) rfl (by show 31 + 1 ≤ 33; omega) (by show 16117 + 10 ≤ 16130; omega) dX11_init_262 ?_
  refine mi_putF C hi (ty := .array .int) fl_109 (f := 31) rfl mr_32 rfl (by decide +kernel) rfl dX11_init_264 ?_
  refine v_aload_n C 0 dX11_init_267 rfl rfl ?_
  refine v_iconst C 3 dX11_init_268 (by decide) ?_
  refine mi_newZ C hC hz (n := 32) (f := 32) rfl (by decide) (N := 3) (by decide) (by decide) rfl (by show 32 + 1 ≤ 33; omega) (by show 16127 + 3 ≤ 16130; omega) dX11_init_269 ?_
  refine mi_putF C hi (ty := .array .boolean) fl_112 (f := 32) rfl mr_33 rfl (by decide +kernel) rfl dX11_init_271 ?_
  rw [wmN_full]
  refine v_aload_n C 0 dX11_init_274 rfl rfl ?_
  refine n_getR C fl_35 dX11_init_275 ?_
  refine v_iconst C 0 dX11_init_278 (by decide) ?_
  refine v_bipush C (-9) dX11_init_279 (by decide) ?_
  refine vm_iast C 9 iI_9 (ix_in rfl) dX11_init_281 ?_
  refine v_aload_n C 0 dX11_init_282 rfl rfl ?_
  refine n_getR C fl_35 dX11_init_283 ?_
  refine v_iconst C 1 dX11_init_286 (by decide) ?_
  refine v_bipush C (-9) dX11_init_287 (by decide) ?_
  refine vm_iast C 9 iI_9 (ix_in rfl) dX11_init_289 ?_
  refine v_iconst C 0 dX11_init_290 (by decide) ?_
  refine v_istore_n C [(1, .int 0), (0, .ref (ad 0))] dX11_init_291 rfl (by decide) rfl ?_
  exact v_sub [1, 0] rfl (mi_l1 C hC hz 100 0 mi_s1 f_minit_eq)
/-- the reference is made -/
theorem c_Model_init {l : Launch} {D : va_G} {cy : Nat → ClassId} {ad : Nat → Nat} (hC : adC ad) : Met l yX11_init (Cond.code yX11_init cX11_init 2 none :: tg) { frames := 2, cells := 33, slots := 16130, locals := 60 } (va_Pc [.ref (ad 0)] (fun U => va_P D vwCl (wmN cy ad 0 0 mz) U.heap ∧ va_K D vwCl (cyT cy) U ∧ NW U ∧ U.heap.size = ad 1)) (vQM D cy ad mu0) 33 16130 (geA (ad 0)) := by
  refine Met.ofW (cc := cX11_init) (maxL := 2) (ret := none) (by decide) rfl ?_
  intro p e s m args below meth c s₁ B hml hv
  obtain ⟨rfl, hP, hK, hN, hz⟩ := hv
  have hts := atoms_spec (ws := Cond.code yX11_init cX11_init 2 none :: tg) B.pre
  have hl := lv_entry [.ref (ad 0)] (n := 2) (Nat.le_of_ble_eq_true rfl)
  rw [lg_entry_eq]
  exact mi_walk (cy := cy) (D := D) ⟨B.exec, B.bytes, hml, findClass_of_methodNamed B.named, fun w hw => hts w (List.mem_cons_of_mem _ hw), B.returns, B.notSynchronized, hK, hN⟩ hC hz (name_of_methodNamed B.named B.method).1 s.heap [] _ hP ⟨fun i j p q hp hq _ => by
    have h1 : i < 1 := by have := (List.getElem?_eq_some_iff.mp hp).1; simpa [wmN] using this
    have h2 : j < 1 := by have := (List.getElem?_eq_some_iff.mp hq).1; simpa [wmN] using this
    omega, fun k q hq => by
    have h1 : k < 1 := by have := (List.getElem?_eq_some_iff.mp hq).1; simpa [wmN] using this
    obtain rfl : k = 0 := by omega
    rw [wmN_at cy ad 0 0 mz (by decide)] at hq
    obtain rfl := Option.some.inj hq
    exact Nat.le_refl _⟩ va_S.rf hl

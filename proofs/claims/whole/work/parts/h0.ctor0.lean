/-- the class while it is made: every cell with its kind, its length and its references -/
def fvD (ad : Nat → Nat) (σ : CS) (j ci k : Nat) : Value := if isR ci k = true then va_rf ((σ.2.1 j k).map ad) else .int (σ.1 j k)
def cellD (cy : Nat → ClassId) (ad : Nat → Nat) (σ : CS) (j : Nat) : va_E :=
  if σ.2.2.1 j < 11 then .inr (σ.2.2.1 j, (List.range (nfl (σ.2.2.1 j))).map (fvD ad σ j (σ.2.2.1 j)))
  else if σ.2.2.1 j = 12 then .inl (cy 0, σ.2.2.2.1 j, .inl (σ.1 j))
  else if σ.2.2.1 j = 14 then .inl (cy 2, σ.2.2.2.1 j, .inl (σ.1 j))
  else .inl (cy (σ.2.2.1 j - 12), σ.2.2.2.1 j, .inr (.inr (.inr (.inr (fun i => (σ.2.1 j i).map ad)))))
def wd (cy : Nat → ClassId) (ad : Nat → Nat) (σ : CS) : va_W := (List.range (ndC σ)).map (fun j => (ad j, cellD cy ad σ j))
def okd (σ : CS) (j K : Nat) : Bool := decide (j < ndC σ) && (σ.2.2.1 j == K)
theorem okd_lt {σ : CS} {j K : Nat} (h : okd σ j K = true) : j < ndC σ := by
  simp only [okd, Bool.and_eq_true, decide_eq_true_eq] at h; exact h.1
theorem okd_k {σ : CS} {j K : Nat} (h : okd σ j K = true) : σ.2.2.1 j = K := by
  simp only [okd, Bool.and_eq_true, decide_eq_true_eq, beq_iff_eq] at h; exact h.2
theorem wd_at (cy : Nat → ClassId) (ad : Nat → Nat) (σ : CS) {j : Nat} (hj : j < ndC σ) : (wd cy ad σ)[j]? = some (ad j, cellD cy ad σ j) := by
  simp [wd, List.getElem?_map, List.getElem?_range hj]
theorem wd_len (cy : Nat → ClassId) (ad : Nat → Nat) (σ : CS) {k : Nat} {q : Nat × va_E} (h : (wd cy ad σ)[k]? = some q) : k < ndC σ ∧ q.1 = ad k := by
  have hk : k < ndC σ := by
    have := (List.getElem?_eq_some_iff.mp h).1
    simpa [wd] using this
  rw [wd_at cy ad σ hk] at h
  exact ⟨hk, by rw [← Option.some.inj h]⟩
theorem wd_D {ad : Nat → Nat} (h : adC ad) (cy : Nat → ClassId) (σ : CS) : va_D (geA (ad 0)) (wd cy ad σ) := by
  refine ⟨fun i j p q hp hq e => ?_, fun k q hq => ?_⟩
  · obtain ⟨a1, a2⟩ := wd_len cy ad σ hp
    obtain ⟨b1, b2⟩ := wd_len cy ad σ hq
    have e1 := h i
    have e2 := h j
    omega
  · obtain ⟨a1, a2⟩ := wd_len cy ad σ hq
    rw [a2, h k]
    exact Nat.le_add_right _ _
theorem wd_obj (cy : Nat → ClassId) (ad : Nat → Nat) (σ : CS) {j ci : Nat} (h : okd σ j ci = true) (hc : ci < 11) : (wd cy ad σ)[j]? = some (ad j, .inr (ci, (List.range (nfl ci)).map (fvD ad σ j ci))) := by
  rw [wd_at cy ad σ (okd_lt h)]
  simp [cellD, okd_k h, hc]
theorem wd_rfs (cy : Nat → ClassId) (ad : Nat → Nat) (σ : CS) {j K : Nat} (h : okd σ j K = true) (hK : 14 < K) : (wd cy ad σ)[j]? = some (ad j, .inl (cy (K - 12), σ.2.2.2.1 j, .inr (.inr (.inr (.inr (fun i => (σ.2.1 j i).map ad)))))) := by
  rw [wd_at cy ad σ (okd_lt h)]
  have h1 : ¬ K < 11 := by omega
  have h2 : ¬ K = 12 := by omega
  have h3 : ¬ K = 14 := by omega
  simp [cellD, okd_k h, h1, h2, h3]
theorem wd_cong {cy : Nat → ClassId} {ad : Nat → Nat} {σ σ' : CS} (hn : ndC σ' = ndC σ) (j : Nat) (e : va_E) (he : cellD cy ad σ' j = e) (ho : ∀ i, i ≠ j → cellD cy ad σ' i = cellD cy ad σ i) : (wd cy ad σ).set j (ad j, e) = wd cy ad σ' := by
  unfold wd
  rw [range_set, hn]
  apply List.map_congr_left
  intro i _
  by_cases hi : i = j
  · subst hi; simp [he]
  · simp [hi, ho i hi]
theorem sI_cellD {cy : Nat → ClassId} {ad : Nat → Nat} {σ : CS} {j k : Nat} {x : Int32} (i : Nat) (hi : i ≠ j) : cellD cy ad (sI σ j k x) i = cellD cy ad σ i := by
  have h1 : (sI σ j k x).1 i = σ.1 i := by simp [sI, hi]
  have h2 : ∀ ci, fvD ad (sI σ j k x) i ci = fvD ad σ i ci := fun ci => by
    funext q
    unfold fvD
    rw [h1]
    rfl
  have h3 : (sI σ j k x).2 = σ.2 := rfl
  simp only [cellD, h1, h2, h3]
theorem sR_cellD {cy : Nat → ClassId} {ad : Nat → Nat} {σ : CS} {j k : Nat} {r : Option Nat} (i : Nat) (hi : i ≠ j) : cellD cy ad (sR σ j k r) i = cellD cy ad σ i := by
  have h5 : (sR σ j k r).2.1 i = σ.2.1 i := by simp [sR, hi]
  have h2 : ∀ ci, fvD ad (sR σ j k r) i ci = fvD ad σ i ci := fun ci => by
    funext q
    unfold fvD
    rw [h5]
    rfl
  have h3 : (sR σ j k r).2.2 = σ.2.2 := rfl
  have h4 : (sR σ j k r).1 = σ.1 := rfl
  simp only [cellD, h2, h3, h4, h5]
theorem wd_sI (cy : Nat → ClassId) (ad : Nat → Nat) (σ : CS) {j ci k : Nat} (x : Int32) (h : okd σ j ci = true) (hc : ci < 11) (hr : isR ci k = false) : (wd cy ad σ).set j (ad j, .inr (ci, ((List.range (nfl ci)).map (fvD ad σ j ci)).set k (.int x))) = wd cy ad (sI σ j k x) := by
  refine wd_cong (σ := σ) (σ' := sI σ j k x) rfl j _ ?_ (fun i hi => sI_cellD i hi)
  have h3 : (sI σ j k x).2.2.1 j = ci := okd_k h
  simp only [cellD, h3, hc, if_true]
  rw [range_set]
  congr 2
  apply List.map_congr_left
  intro i _
  by_cases hi : i = k
  · subst hi; simp [fvD, hr, sI, upd]
  · simp only [if_neg hi, fvD]
    rw [show (sI σ j k x).1 j i = σ.1 j i by simp [sI, upd, hi], show (sI σ j k x).2 = σ.2 from rfl]
theorem wd_sR (cy : Nat → ClassId) (ad : Nat → Nat) (σ : CS) {j ci k : Nat} (r : Option Nat) (h : okd σ j ci = true) (hc : ci < 11) (hr : isR ci k = true) : (wd cy ad σ).set j (ad j, .inr (ci, ((List.range (nfl ci)).map (fvD ad σ j ci)).set k (va_rf (r.map ad)))) = wd cy ad (sR σ j k r) := by
  refine wd_cong (σ := σ) (σ' := sR σ j k r) rfl j _ ?_ (fun i hi => sR_cellD i hi)
  have h3 : (sR σ j k r).2.2.1 j = ci := okd_k h
  simp only [cellD, h3, hc, if_true]
  rw [range_set]
  congr 2
  apply List.map_congr_left
  intro i _
  by_cases hi : i = k
  · subst hi; simp [fvD, hr, sR, va_up]
  · simp only [if_neg hi, fvD]
    rw [show (sR σ j k r).2.1 j i = σ.2.1 j i by simp [sR, va_up, hi], show (sR σ j k r).1 j i = σ.1 j i from rfl]
theorem wd_sRA (cy : Nat → ClassId) (ad : Nat → Nat) (σ : CS) {j K : Nat} (i : Nat) (r : Option Nat) (h : okd σ j K = true) (hK : 14 < K) : (wd cy ad σ).set j (ad j, .inl (cy (K - 12), σ.2.2.2.1 j, .inr (.inr (.inr (.inr (va_up (fun i => (σ.2.1 j i).map ad) i (r.map ad))))))) = wd cy ad (sR σ j i r) := by
  refine wd_cong (σ := σ) (σ' := sR σ j i r) rfl j _ ?_ (fun i hi => sR_cellD i hi)
  have h3 : (sR σ j i r).2.2.1 j = K := okd_k h
  have h4 : (sR σ j i r).2.2.2.1 j = σ.2.2.2.1 j := rfl
  have h1 : ¬ K < 11 := by omega
  have h2 : ¬ K = 12 := by omega
  have h5 : ¬ K = 14 := by omega
  simp only [cellD, h3, h4, h1, h2, h5, if_false]
  congr 7
  funext q
  by_cases hq : q = i
  · subst hq; simp [sR, va_up]
  · simp [sR, va_up, hq]
def nwD (σ : CS) (K n : Nat) : CS := ((fun a => if a = ndC σ then (fun _ => 0) else σ.1 a), (fun a => if a = ndC σ then (fun _ => none) else σ.2.1 a), (fun a => if a = ndC σ then K else σ.2.2.1 a), (fun a => if a = ndC σ then n else σ.2.2.2.1 a), ndC σ + 1)
theorem nd_cell (cy : Nat → ClassId) (ad : Nat → Nat) (σ : CS) (K n : Nat) {i : Nat} (h : i ≠ ndC σ) : cellD cy ad (nwD σ K n) i = cellD cy ad σ i := by
  have h1 : (nwD σ K n).1 i = σ.1 i := by simp [nwD, h]
  have h2 : (nwD σ K n).2.2.1 i = σ.2.2.1 i := by simp [nwD, h]
  have h3 : (nwD σ K n).2.2.2.1 i = σ.2.2.2.1 i := by simp [nwD, h]
  have h4 : (nwD σ K n).2.1 i = σ.2.1 i := by simp [nwD, h]
  have h5 : ∀ ci, fvD ad (nwD σ K n) i ci = fvD ad σ i ci := fun ci => by
    funext q
    unfold fvD
    rw [h1, h4]
  simp only [cellD, h1, h2, h3, h4, h5]
theorem nd_knd (σ : CS) (K n : Nat) : (nwD σ K n).2.2.1 (ndC σ) = K := by simp [nwD]
theorem nd_ln (σ : CS) (K n : Nat) : (nwD σ K n).2.2.2.1 (ndC σ) = n := by simp [nwD]
theorem nd_rf (σ : CS) (K n : Nat) : (nwD σ K n).2.1 (ndC σ) = fun _ => none := by simp [nwD]
theorem nd_I (σ : CS) (K n : Nat) : (nwD σ K n).1 (ndC σ) = fun _ => 0 := by simp [nwD]
theorem nd_obj (cy : Nat → ClassId) (ad : Nat → Nat) (σ : CS) {K : Nat} (n : Nat) (h : K < 11) : cellD cy ad (nwD σ K n) (ndC σ) = .inr (K, (List.range (nfl K)).map (fun k => if isR K k = true then .null else .int 0)) := by
  simp only [cellD, nd_knd, h, if_true]
  congr 2
  apply List.map_congr_left
  intro k _
  simp only [fvD, nd_rf, nd_I, Option.map_none, va_rf]
theorem nd_int (cy : Nat → ClassId) (ad : Nat → Nat) (σ : CS) (n : Nat) : cellD cy ad (nwD σ 12 n) (ndC σ) = .inl (cy 0, n, .inl (fun _ => 0)) := by
  simp [cellD, nd_knd, nd_ln, nd_I]
theorem nd_boo (cy : Nat → ClassId) (ad : Nat → Nat) (σ : CS) (n : Nat) : cellD cy ad (nwD σ 14 n) (ndC σ) = .inl (cy 2, n, .inl (fun _ => 0)) := by
  simp [cellD, nd_knd, nd_ln, nd_I]
theorem nd_ref (cy : Nat → ClassId) (ad : Nat → Nat) (σ : CS) {K : Nat} (n : Nat) (h : 14 < K) : cellD cy ad (nwD σ K n) (ndC σ) = .inl (cy (K - 12), n, .inr (.inr (.inr (.inr (fun _ => none))))) := by
  have h1 : ¬ K < 11 := by omega
  have h2 : ¬ K = 12 := by omega
  have h3 : ¬ K = 14 := by omega
  simp [cellD, nd_knd, nd_ln, nd_rf, h1, h2, h3]
theorem wd_nw (cy : Nat → ClassId) (ad : Nat → Nat) (σ : CS) (K n : Nat) {e : va_E} (he : cellD cy ad (nwD σ K n) (ndC σ) = e) : wd cy ad σ ++ [(ad (ndC σ), e)] = wd cy ad (nwD σ K n) := by
  unfold wd
  rw [show ndC (nwD σ K n) = (ndC σ) + 1 from rfl, List.range_succ, List.map_append]
  congr 1
  · apply List.map_congr_left
    intro i hi
    rw [nd_cell cy ad σ K n (by have := List.mem_range.mp hi; omega)]
  · simp [he]
theorem wd_last {D : va_G} {cy : Nat → ClassId} {ad : Nat → Nat} {σ : CS} {H : Heap} (hP : va_P D vwCl (wd cy ad σ) H) {j : Nat} (hj : j < ndC σ) : ad j < H.size := (hP j _ (wd_at cy ad σ hj)).lt
theorem sz_ofD {D : va_G} {cy : Nat → ClassId} {ad : Nat → Nat} {σ : CS} {H H0 : Heap} {locs : List Loc} {n0 kc : Nat} (hA : adC ad) (hz : H0.size = ad n0) (hn : ndC σ = n0 + kc) (hP : va_P D vwCl (wd cy ad σ) H) (hS : va_S (geA (ad 0)) H0 H locs) (hb : H.size ≤ H0.size + kc) : H.size = ad (ndC σ) := by
  rw [hn]
  have e1 := hA n0
  have e2 := hA (n0 + kc)
  by_cases h : kc = 0
  · subst h
    have := hS.1
    omega
  · have h1 := wd_last hP (show n0 + (kc - 1) < ndC σ by omega)
    have e3 := hA (n0 + (kc - 1))
    omega
/-- a contract of a constructor -/
def vQD (D : va_G) (cy : Nat → ClassId) (ad : Nat → Nat) (r : Option Value) (σ' : CS) : Array Value → State → Outcome → State → Prop := fun _ st oc t => oc = .returned r ∧ va_P D vwCl (wd cy ad σ') t.heap ∧ t.heap.size = ad (ndC σ') ∧ va_F (geA (ad 0)) st t
def MVD (l : Launch) (D : va_G) (cy : Nat → ClassId) (ad : Nat → Nat) (y : MethodName) (bytes : ByteArray) (maxL : Nat) (ret : Option FieldType) (fr lo mc ms : Nat) (as : List Value) (σ : CS) (r : Option Value) (σ' : CS) : Prop :=
  Met l y (Cond.code y bytes maxL ret :: tg) { frames := fr, cells := mc, slots := ms, locals := lo } (va_Pc as (fun U => va_P D vwCl (wd cy ad σ) U.heap ∧ va_K D vwCl (cyT cy) U ∧ NW U ∧ U.heap.size = ad (ndC σ))) (vQD D cy ad r σ') mc ms (geA (ad 0))
theorem MVD.of {l : Launch} {D : va_G} {cy : Nat → ClassId} {ad : Nat → Nat} {y : MethodName} {bytes : ByteArray} {maxL : Nat} {ret : Option FieldType} {fr lo kc ks : Nat} {as : List Value} {σ σ' : CS} {r : Option Value} (hy : plainName y.cls = true) (hD : va_D (geA (ad 0)) (wd cy ad σ)) (hn : (lg_sl as).length ≤ maxL) (ls : List (Nat × Value)) (hls : lv_args 0 as = ls)
    (body : ∀ (p : Program) (e : Env) (s : State) (m : MethodId) (args : Array Value) (below : List Frame) (meth : Method) (c : Code), vC p s m args meth c bytes maxL ret y.cls D (cyT cy) → s.heap.size = ad (ndC σ) → meth.name = y.name → V p l e { frames := fr, cells := kc, slots := ks, locals := lo } s m args below meth c D (geA (ad 0)) maxL (MQ below (vQD D cy ad r σ') args s kc ks (geA (ad 0))) 0 0 (wd cy ad σ) 0 ls []) : MVD l D cy ad y bytes maxL ret fr lo kc ks as σ r σ' := by
  refine Met.ofW (cc := bytes) (maxL := maxL) (ret := ret) hy rfl ?_
  intro p e s m args below meth c s₁ B hml hv
  obtain ⟨rfl, hP, hK, hN, hz⟩ := hv
  have hts := atoms_spec (ws := Cond.code y bytes maxL ret :: tg) B.pre
  have hl := lv_entry as (n := maxL) hn
  rw [lg_entry_eq]
  rw [hls] at hl
  exact body p e s m _ below meth c ⟨B.exec, B.bytes, hml, findClass_of_methodNamed B.named, fun w hw => hts w (List.mem_cons_of_mem _ hw), B.returns, B.notSynchronized, hK, hN⟩ hz (name_of_methodNamed B.named B.method).1 s.heap [] _ hP hD va_S.rf hl

/-- the reference's state: its numbers by their slots, its rows by their cells, its long row -/
abbrev MS : Type := (Nat → Int32) × (Nat → Nat → Int32) × (Nat → Int64)
def mref : Nat → Nat
  | 0 => 1
  | 2 => 2
  | 6 => 3
  | 11 => 4
  | 12 => 5
  | 13 => 6
  | 14 => 7
  | 16 => 8
  | 17 => 9
  | 18 => 10
  | 20 => 11
  | 22 => 12
  | 23 => 13
  | 25 => 14
  | 26 => 15
  | 28 => 16
  | 29 => 17
  | 30 => 18
  | 31 => 19
  | 32 => 20
  | 33 => 21
  | 34 => 22
  | 35 => 23
  | 36 => 24
  | 37 => 25
  | 38 => 26
  | 39 => 27
  | 40 => 28
  | 41 => 29
  | 42 => 30
  | 43 => 31
  | 51 => 32
  | 61 => 33
  | _ => 0
def aln : Nat → Nat
  | 1 => 9400
  | 2 => 32
  | 3 => 3
  | 4 => 4
  | 5 => 8
  | 6 => 8
  | 7 => 816
  | 8 => 1224
  | 9 => 2
  | 10 => 2400
  | 11 => 1200
  | 12 => 60
  | 13 => 60
  | 14 => 60
  | 15 => 60
  | 16 => 60
  | 17 => 60
  | 18 => 60
  | 19 => 60
  | 20 => 60
  | 21 => 60
  | 22 => 60
  | 23 => 40
  | 24 => 40
  | 25 => 40
  | 26 => 40
  | 27 => 40
  | 28 => 40
  | 29 => 40
  | 30 => 40
  | 31 => 40
  | 32 => 10
  | 33 => 3
  | _ => 0
def akd : Nat → Nat
  | 3 => 2
  | 10 => 1
  | 33 => 2
  | _ => 0
def fvM (ad : Nat → Nat) (σ : MS) (k : Nat) : Value := if mref k = 0 then .int (σ.1 k) else .ref (ad (mref k))
def cyT (cy : Nat → ClassId) : List (ClassId × FieldType) := [(cy 0, .int), (cy 1, .long), (cy 2, .boolean), (cy 3, .object "JudgedTerms$Entry"), (cy 4, .object "JudgedTerms$Form"), (cy 5, .object "JudgedTerms$Shelf")]
def cellM (cy : Nat → ClassId) (ad : Nat → Nat) (σ : MS) (j : Nat) : va_E := if j = 0 then .inr (11, (List.range 62).map (fvM ad σ)) else if akd j = 0 then .inl (cy 0, aln j, .inl (σ.2.1 j)) else if akd j = 1 then .inl (cy 1, aln j, .inr (.inl σ.2.2)) else .inl (cy 2, aln j, .inl (σ.2.1 j))
def wm (cy : Nat → ClassId) (ad : Nat → Nat) (σ : MS) : va_W := (List.range 34).map (fun j => (ad j, cellM cy ad σ j))
def setF (σ : MS) (k : Nat) (x : Int32) : MS := (upd σ.1 k x, σ.2)
def setA (σ : MS) (j i : Nat) (x : Int32) : MS := (σ.1, (fun q => if q = j then upd (σ.2.1 j) i x else σ.2.1 q), σ.2.2)
def setL (σ : MS) (i : Nat) (x : Int64) : MS := (σ.1, σ.2.1, vp_updL σ.2.2 i x)
def inAd (ad : Nat → Nat) : Nat → Prop := fun q => ∃ j, j < 34 ∧ q = ad j
theorem wm_at (cy : Nat → ClassId) (ad : Nat → Nat) (σ : MS) {j : Nat} (hj : j < 34) : (wm cy ad σ)[j]? = some (ad j, cellM cy ad σ j) := by
  simp [wm, List.getElem?_map, List.getElem?_range hj]
theorem range_set {α : Type} (N k : Nat) (g : Nat → α) (v : α) : ((List.range N).map g).set k v = (List.range N).map (fun i => if i = k then v else g i) := by
  apply List.ext_getElem?
  intro i
  rw [List.getElem?_set]
  by_cases h : k = i
  · subst h
    by_cases hk : k < N <;> simp [hk]
  · have h2 : ¬ i = k := fun q => h q.symm
    by_cases hk : i < N <;> simp [h, h2, hk]
theorem wm_inj {ad : Nat → Nat} (h : ∀ i j, i < 34 → j < 34 → ad i = ad j → i = j) (cy : Nat → ClassId) (σ : MS) : va_D (inAd ad) (wm cy ad σ) := by
  have key : ∀ (k : Nat) (q : Nat × va_E), (wm cy ad σ)[k]? = some q → k < 34 ∧ q.1 = ad k := by
    intro k q hq
    have hk : k < 34 := by
      have := (List.getElem?_eq_some_iff.mp hq).1
      simpa [wm] using this
    rw [wm_at cy ad σ hk] at hq
    exact ⟨hk, by rw [← Option.some.inj hq]⟩
  refine ⟨fun i j p q hp hq e => ?_, fun k q hq => ?_⟩
  · obtain ⟨a1, a2⟩ := key i p hp
    obtain ⟨b1, b2⟩ := key j q hq
    exact h i j a1 b1 (by rw [← a2, ← b2]; exact e)
  · obtain ⟨a1, a2⟩ := key k q hq
    exact ⟨k, a1, a2⟩
theorem wm_setF (cy : Nat → ClassId) (ad : Nat → Nat) (σ : MS) (k : Nat) (x : Int32) (hk : mref k = 0) : (wm cy ad σ).set 0 (ad 0, .inr (11, ((List.range 62).map (fvM ad σ)).set k (.int x))) = wm cy ad (setF σ k x) := by
  unfold wm
  rw [range_set, range_set]
  apply List.map_congr_left
  intro j _
  by_cases hj : j = 0
  · subst hj
    simp only [if_true, cellM]
    congr 3
    apply List.map_congr_left
    intro i _
    by_cases hi : i = k
    · subst hi; simp [fvM, hk, setF, upd]
    · simp [fvM, setF, upd, hi]
  · simp [cellM, hj, setF]
theorem wm_setA (cy : Nat → ClassId) (ad : Nat → Nat) (σ : MS) (j i : Nat) (x : Int32) (c : ClassId) (hj : j ≠ 0) (hc : (akd j = 0 ∧ c = cy 0) ∨ (akd j = 2 ∧ c = cy 2)) : (wm cy ad σ).set j (ad j, .inl (c, aln j, .inl (upd (σ.2.1 j) i x))) = wm cy ad (setA σ j i x) := by
  unfold wm
  rw [range_set]
  apply List.map_congr_left
  intro q _
  by_cases hq : q = j
  · subst hq
    rcases hc with ⟨h1, rfl⟩ | ⟨h1, rfl⟩ <;> simp [cellM, hj, h1, setA]
  · simp [cellM, hq, setA, show ∀ τ : (Nat → Nat → Int32) × (Nat → Int64), fvM ad (σ.1, τ) = fvM ad σ from fun _ => rfl]
theorem wm_setL (cy : Nat → ClassId) (ad : Nat → Nat) (σ : MS) (i : Nat) (x : Int64) : (wm cy ad σ).set 10 (ad 10, .inl (cy 1, aln 10, .inr (.inl (vp_updL σ.2.2 i x)))) = wm cy ad (setL σ i x) := by
  unfold wm
  rw [range_set]
  apply List.map_congr_left
  intro q _
  by_cases hq : q = 10
  · subst hq; simp [cellM, setL, akd]
  · by_cases h1 : akd q = 1
    · exact absurd h1 (by
        intro h1
        apply hq
        revert h1
        unfold akd
        split <;> simp)
    · simp [cellM, hq, setL, h1, show ∀ τ : (Nat → Nat → Int32) × (Nat → Int64), fvM ad (σ.1, τ) = fvM ad σ from fun _ => rfl]
section MM
variable {p : Program} {l : Launch} {e : Env} {R : Room} {s : State} {m : MethodId} {args : Array Value} {below : List Frame} {meth : Method} {c : Code} {Q : State → Prop} {cc : ByteArray} {nL kc ks pc : Nat} {ret : Option FieldType} {own : String} {D : va_G} {A : Nat → Prop} {ls : List (Nat × Value)} {st : List Value} {cy : Nat → ClassId} {ad : Nat → Nat} {σ : MS}
theorem vm_getI (C : vC p s m args meth c cc nL ret own D (cyT cy)) {idx : Nat} (k : Nat) (hk : k < 62) (hr : mref k = 0) (hc : (TX11 k).1 = RX11) (hw : Cond.fieldLink own idx RX11 (TX11 k).2.1 (TX11 k).2.2.1 ∈ tg) (d : decode cc pc = .ok (.getfield idx, 3)) (kk : V p l e R s m args below meth c D A nL Q kc ks (wm cy ad σ) (pc + 3) ls (.int (σ.1 k) :: st)) : V p l e R s m args below meth c D A nL Q kc ks (wm cy ad σ) pc ls (.ref (ad 0) :: st) :=
  v_get C 0 k (.int (σ.1 k)) ixX11 (wm_at cy ad σ (by decide)) rfl hk hc hw (by simp [List.getElem?_map, List.getElem?_range hk, fvM, hr]) d kk
theorem vm_getR (C : vC p s m args meth c cc nL ret own D (cyT cy)) {idx : Nat} (k j : Nat) (hk : k < 62) (hr : mref k = j) (hj : j ≠ 0) (hc : (TX11 k).1 = RX11) (hw : Cond.fieldLink own idx RX11 (TX11 k).2.1 (TX11 k).2.2.1 ∈ tg) (d : decode cc pc = .ok (.getfield idx, 3)) (kk : V p l e R s m args below meth c D A nL Q kc ks (wm cy ad σ) (pc + 3) ls (.ref (ad j) :: st)) : V p l e R s m args below meth c D A nL Q kc ks (wm cy ad σ) pc ls (.ref (ad 0) :: st) :=
  v_get C 0 k (.ref (ad j)) ixX11 (wm_at cy ad σ (by decide)) rfl hk hc hw (by simp [List.getElem?_map, List.getElem?_range hk, fvM, hr, hj]) d kk
theorem vm_putI (C : vC p s m args meth c cc nL ret own D (cyT cy)) {idx : Nat} {x : Int32} (k : Nat) (hk : k < 62) (hr : mref k = 0) (hc : (TX11 k).1 = RX11) (hf : (TX11 k).2.2.2 = false) (hd : parseFieldDescriptor (TX11 k).2.2.1 = some .int) (hw : Cond.fieldLink own idx RX11 (TX11 k).2.1 (TX11 k).2.2.1 ∈ tg) (d : decode cc pc = .ok (.putfield idx, 3)) (kk : V p l e R s m args below meth c D A nL Q kc ks (wm cy ad (setF σ k x)) (pc + 3) ls st) : V p l e R s m args below meth c D A nL Q kc ks (wm cy ad σ) pc ls (.int x :: .ref (ad 0) :: st) :=
  v_put C 0 k ixX11 tyX11_ok nmX11 (wm_at cy ad σ (by decide)) rfl hk hc hw hf hd rfl rfl (by simpa using hk) d (wm_setF cy ad σ k x hr) kk
theorem vm_putZ (C : vC p s m args meth c cc nL ret own D (cyT cy)) {idx : Nat} {x : Int32} (hz : bz x) (k : Nat) (hk : k < 62) (hr : mref k = 0) (hc : (TX11 k).1 = RX11) (hf : (TX11 k).2.2.2 = false) (hd : parseFieldDescriptor (TX11 k).2.2.1 = some .boolean) (hw : Cond.fieldLink own idx RX11 (TX11 k).2.1 (TX11 k).2.2.1 ∈ tg) (d : decode cc pc = .ok (.putfield idx, 3)) (kk : V p l e R s m args below meth c D A nL Q kc ks (wm cy ad (setF σ k x)) (pc + 3) ls st) : V p l e R s m args below meth c D A nL Q kc ks (wm cy ad σ) pc ls (.int x :: .ref (ad 0) :: st) :=
  v_put C 0 k ixX11 tyX11_ok nmX11 (wm_at cy ad σ (by decide)) rfl hk hc hw hf hd (bz_n hz) (bz_f hz) (by simpa using hk) d (wm_setF cy ad σ k x hr) kk
theorem wm_int (j : Nat) (hj : j < 34) (h0 : j ≠ 0) (hk : akd j = 0) : (wm cy ad σ)[j]? = some (ad j, .inl (cy 0, aln j, .inl (σ.2.1 j))) := by
  rw [wm_at cy ad σ hj]; simp [cellM, h0, hk]
theorem wm_boo (j : Nat) (hj : j < 34) (h0 : j ≠ 0) (hk : akd j = 2) : (wm cy ad σ)[j]? = some (ad j, .inl (cy 2, aln j, .inl (σ.2.1 j))) := by
  rw [wm_at cy ad σ hj]; simp [cellM, h0, hk]
/-- a row of ints, by its cell -/
def isI (j : Nat) : Prop := j < 34 ∧ j ≠ 0 ∧ akd j = 0
theorem vm_iald (C : vC p s m args meth c cc nL ret own D (cyT cy)) {i : Int32} (j : Nat) (hj : isI j) (hin : vp_in i (aln j)) (d : decode cc pc = .ok (.iaload, 1)) (kk : V p l e R s m args below meth c D A nL Q kc ks (wm cy ad σ) (pc + 1) ls (.int (σ.2.1 j i.toNatClampNeg) :: st)) : V p l e R s m args below meth c D A nL Q kc ks (wm cy ad σ) pc ls (.int i :: .ref (ad j) :: st) :=
  v_iald C j 0 (wm_int j hj.1 hj.2.1 hj.2.2) rfl hin d kk
theorem vm_iast (C : vC p s m args meth c cc nL ret own D (cyT cy)) {i x : Int32} (j : Nat) (hj : isI j) (hin : vp_in i (aln j)) (d : decode cc pc = .ok (.iastore, 1)) (kk : V p l e R s m args below meth c D A nL Q kc ks (wm cy ad (setA σ j i.toNatClampNeg x)) (pc + 1) ls st) : V p l e R s m args below meth c D A nL Q kc ks (wm cy ad σ) pc ls (.int x :: .int i :: .ref (ad j) :: st) :=
  v_iast C j 0 (wm_int j hj.1 hj.2.1 hj.2.2) rfl hin d (wm_setA cy ad σ j _ x _ hj.2.1 (Or.inl ⟨hj.2.2, rfl⟩)) kk
theorem vm_zald (C : vC p s m args meth c cc nL ret own D (cyT cy)) {i : Int32} (j : Nat) (hj : j < 34) (h0 : j ≠ 0) (hk : akd j = 2) (hin : vp_in i (aln j)) (d : decode cc pc = .ok (.baload, 1)) (kk : V p l e R s m args below meth c D A nL Q kc ks (wm cy ad σ) (pc + 1) ls (.int (σ.2.1 j i.toNatClampNeg) :: st)) : V p l e R s m args below meth c D A nL Q kc ks (wm cy ad σ) pc ls (.int i :: .ref (ad j) :: st) :=
  v_zald C j 2 (wm_boo j hj h0 hk) rfl hin d kk
theorem vm_zast (C : vC p s m args meth c cc nL ret own D (cyT cy)) {i x : Int32} (hz : bz x) (j : Nat) (hj : j < 34) (h0 : j ≠ 0) (hk : akd j = 2) (hin : vp_in i (aln j)) (d : decode cc pc = .ok (.bastore, 1)) (kk : V p l e R s m args below meth c D A nL Q kc ks (wm cy ad (setA σ j i.toNatClampNeg x)) (pc + 1) ls st) : V p l e R s m args below meth c D A nL Q kc ks (wm cy ad σ) pc ls (.int x :: .int i :: .ref (ad j) :: st) :=
  v_zast C j 2 (wm_boo j hj h0 hk) rfl hin d (by rw [bz_v hz]; exact wm_setA cy ad σ j _ x _ h0 (Or.inr ⟨hk, rfl⟩)) kk
theorem vm_lald (C : vC p s m args meth c cc nL ret own D (cyT cy)) {i : Int32} (hin : vp_in i (aln 10)) (d : decode cc pc = .ok (.laload, 1)) (kk : V p l e R s m args below meth c D A nL Q kc ks (wm cy ad σ) (pc + 1) ls (.long (σ.2.2 i.toNatClampNeg) :: st)) : V p l e R s m args below meth c D A nL Q kc ks (wm cy ad σ) pc ls (.int i :: .ref (ad 10) :: st) :=
  v_lald C 10 1 (wm_at cy ad σ (by decide)) rfl hin d kk
theorem vm_last (C : vC p s m args meth c cc nL ret own D (cyT cy)) {i : Int32} {x : Int64} (hin : vp_in i (aln 10)) (d : decode cc pc = .ok (.lastore, 1)) (kk : V p l e R s m args below meth c D A nL Q kc ks (wm cy ad (setL σ i.toNatClampNeg x)) (pc + 1) ls st) : V p l e R s m args below meth c D A nL Q kc ks (wm cy ad σ) pc ls (.long x :: .int i :: .ref (ad 10) :: st) :=
  v_last C 10 1 (wm_at cy ad σ (by decide)) rfl hin d (wm_setL cy ad σ _ x) kk
/-- a call of a method of the reference -/
theorem vm_call (C : vC p s m args meth c cc nL ret own D (cyT cy)) {y : MethodName} {bytes : ByteArray} {maxL n idx fr lo : Nat} {ret' : Option FieldType} {r : Option Value} {σ' : MS} (As rest : List Value) (hM : MV l D (cyT cy) A y bytes maxL ret' fr lo 0 0 (.ref (ad 0) :: As) (wm cy ad σ) r (wm cy ad σ')) (hY : vY RX11 y bytes maxL ret' n) (hlk : Cond.methodLink own idx y ∈ tg) (hR : fr + 1 ≤ R.frames ∧ 8 + (maxL + 11) + lo ≤ R.locals) (hf : kc ≤ R.cells ∧ ks ≤ R.slots) (hn : As.length = n) (hst : st = As.reverse ++ .ref (ad 0) :: rest) (hcat : (rest.map fun v => v.category).sum ≤ 8) (d : decode cc pc = .ok (.invokevirtual idx, 3)) (hD' : va_D A (wm cy ad σ')) (k : V p l e R s m args below meth c D A nL Q kc ks (wm cy ad σ') (pc + 3) ls (r.toList ++ rest)) : V p l e R s m args below meth c D A nL Q kc ks (wm cy ad σ) pc ls st :=
  v_call C As rest hM hY hlk (wm_at cy ad σ (by decide)) rfl hR hf hn hst hcat d (fun _ => hD') k
theorem vm_callS (C : vC p s m args meth c cc nL ret own D (cyT cy)) {y : MethodName} {bytes : ByteArray} {maxL n idx fr lo : Nat} {ret' : Option FieldType} {r : Option Value} {σ' : MS} (As rest : List Value) (hM : MV l D (cyT cy) A y bytes maxL ret' fr lo 0 0 As (wm cy ad σ) r (wm cy ad σ')) (hY : vYS own y bytes maxL ret' n) (hlk : Cond.methodLink own idx y ∈ tg) (hR : fr + 1 ≤ R.frames ∧ 8 + (maxL + 11) + lo ≤ R.locals) (hf : kc ≤ R.cells ∧ ks ≤ R.slots) (hn : As.length = n) (hst : st = As.reverse ++ rest) (hcat : (rest.map fun v => v.category).sum ≤ 8) (d : decode cc pc = .ok (.invokestatic idx, 3)) (hD' : va_D A (wm cy ad σ')) (k : V p l e R s m args below meth c D A nL Q kc ks (wm cy ad σ') (pc + 3) ls (r.toList ++ rest)) : V p l e R s m args below meth c D A nL Q kc ks (wm cy ad σ) pc ls st :=
  v_callS C As rest hM hY hlk hR hf hn hst hcat d (fun _ => hD') k
end MM
/-- a field's words: of a row, of a number, of a boolean -/
def fR (idx k j : Nat) : Prop := k < 62 ∧ mref k = j ∧ j ≠ 0 ∧ (TX11 k).1 = RX11 ∧ Cond.fieldLink RX11 idx RX11 (TX11 k).2.1 (TX11 k).2.2.1 ∈ tg
def fI (idx k : Nat) : Prop := k < 62 ∧ mref k = 0 ∧ (TX11 k).1 = RX11 ∧ (TX11 k).2.2.2 = false ∧ parseFieldDescriptor (TX11 k).2.2.1 = some .int ∧ Cond.fieldLink RX11 idx RX11 (TX11 k).2.1 (TX11 k).2.2.1 ∈ tg
def fZ (idx k : Nat) : Prop := k < 62 ∧ mref k = 0 ∧ (TX11 k).1 = RX11 ∧ (TX11 k).2.2.2 = false ∧ parseFieldDescriptor (TX11 k).2.2.1 = some .boolean ∧ Cond.fieldLink RX11 idx RX11 (TX11 k).2.1 (TX11 k).2.2.1 ∈ tg
section MN
variable {p : Program} {l : Launch} {e : Env} {R : Room} {s : State} {m : MethodId} {args : Array Value} {below : List Frame} {meth : Method} {c : Code} {Q : State → Prop} {cc : ByteArray} {nL kc ks pc : Nat} {ret : Option FieldType} {D : va_G} {A : Nat → Prop} {ls : List (Nat × Value)} {st : List Value} {cy : Nat → ClassId} {ad : Nat → Nat} {σ : MS}
theorem n_getI (C : vC p s m args meth c cc nL ret RX11 D (cyT cy)) {idx : Nat} {k : Nat} (h : fI idx k) (d : decode cc pc = .ok (.getfield idx, 3)) (kk : V p l e R s m args below meth c D A nL Q kc ks (wm cy ad σ) (pc + 3) ls (.int (σ.1 k) :: st)) : V p l e R s m args below meth c D A nL Q kc ks (wm cy ad σ) pc ls (.ref (ad 0) :: st) := vm_getI C k h.1 h.2.1 h.2.2.1 h.2.2.2.2.2 d kk
theorem n_getZ (C : vC p s m args meth c cc nL ret RX11 D (cyT cy)) {idx : Nat} {k : Nat} (h : fZ idx k) (d : decode cc pc = .ok (.getfield idx, 3)) (kk : V p l e R s m args below meth c D A nL Q kc ks (wm cy ad σ) (pc + 3) ls (.int (σ.1 k) :: st)) : V p l e R s m args below meth c D A nL Q kc ks (wm cy ad σ) pc ls (.ref (ad 0) :: st) := vm_getI C k h.1 h.2.1 h.2.2.1 h.2.2.2.2.2 d kk
theorem n_getR (C : vC p s m args meth c cc nL ret RX11 D (cyT cy)) {idx : Nat} {k j : Nat} (h : fR idx k j) (d : decode cc pc = .ok (.getfield idx, 3)) (kk : V p l e R s m args below meth c D A nL Q kc ks (wm cy ad σ) (pc + 3) ls (.ref (ad j) :: st)) : V p l e R s m args below meth c D A nL Q kc ks (wm cy ad σ) pc ls (.ref (ad 0) :: st) := vm_getR C k j h.1 h.2.1 h.2.2.1 h.2.2.2.1 h.2.2.2.2 d kk
theorem n_putI (C : vC p s m args meth c cc nL ret RX11 D (cyT cy)) {idx : Nat} {x : Int32} {k : Nat} (h : fI idx k) (d : decode cc pc = .ok (.putfield idx, 3)) (kk : V p l e R s m args below meth c D A nL Q kc ks (wm cy ad (setF σ k x)) (pc + 3) ls st) : V p l e R s m args below meth c D A nL Q kc ks (wm cy ad σ) pc ls (.int x :: .ref (ad 0) :: st) := vm_putI C k h.1 h.2.1 h.2.2.1 h.2.2.2.1 h.2.2.2.2.1 h.2.2.2.2.2 d kk
theorem n_putZ (C : vC p s m args meth c cc nL ret RX11 D (cyT cy)) {idx : Nat} {x : Int32} {k : Nat} (hz : bz x) (h : fZ idx k) (d : decode cc pc = .ok (.putfield idx, 3)) (kk : V p l e R s m args below meth c D A nL Q kc ks (wm cy ad (setF σ k x)) (pc + 3) ls st) : V p l e R s m args below meth c D A nL Q kc ks (wm cy ad σ) pc ls (.int x :: .ref (ad 0) :: st) := vm_putZ C hz k h.1 h.2.1 h.2.2.1 h.2.2.2.1 h.2.2.2.2.1 h.2.2.2.2.2 d kk
end MN
/-- in range, as a Bool; a boolean -/
def ix (i : Int32) (n : Nat) : Bool := !(decide (i < 0) || decide (n ≤ i.toNatClampNeg))
theorem ix_in {i : Int32} {n : Nat} (h : ix i n = true) : vp_in i n := by
  unfold vp_in
  simpa [ix] using h
def bzb (x : Int32) : Bool := x == 0 || x == 1
theorem bzb_in {x : Int32} (h : bzb x = true) : bz x := by simpa [bzb, bz] using h
theorem gd_of {α : Type} {b : Bool} {x : Option α} {y : α} (h : (if b then x else none) = some y) : b = true ∧ x = some y := by
  cases b
  · simp at h
  · exact ⟨rfl, by simpa using h⟩
theorem bd_of {α β : Type} {x : Option α} {f : α → Option β} {y : β} (h : x.bind f = some y) : ∃ q, x = some q ∧ f q = some y := Option.bind_eq_some_iff.mp h
theorem sw_out {x : Int32} {lo hi : Int} (n : Nat) (hn : hi = lo + n) (h : ∀ i : Nat, i ≤ n → ¬ x.toInt = lo + i) : x.toInt < lo ∨ hi < x.toInt := by
  by_cases h1 : x.toInt < lo
  · exact Or.inl h1
  · by_cases h2 : hi < x.toInt
    · exact Or.inr h2
    · exact absurd (show x.toInt = lo + ((x.toInt - lo).toNat : Nat) by omega) (h _ (by omega))

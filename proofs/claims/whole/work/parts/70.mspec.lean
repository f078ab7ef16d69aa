section SPEC
/-- a choice by any proposition -/
noncomputable def cif {α : Type} (P : Prop) (a b : α) : α := @ite α P (Classical.propDecidable P) a b
theorem cif_pos {α : Type} {P : Prop} (h : P) (a b : α) : cif P a b = a := by
  unfold cif
  exact if_pos h
theorem cif_neg {α : Type} {P : Prop} (h : ¬ P) (a b : α) : cif P a b = b := by
  unfold cif
  exact if_neg h
/-- the first sign of a type -/
def hdr : Tr → Nat
  | .leaf s => s
  | .branch s _ _ => s
def fstT : Tr → Tr
  | .leaf s => .leaf s
  | .branch _ a _ => a
def sndT : Tr → Tr
  | .leaf s => .leaf s
  | .branch _ _ b => b
/-- a type that is required, or that a name has: a form and the row it is read by -/
abbrev Rq : Type := Tr × List Tr
abbrev RT : Type := List Rq → Nat → Except Nat (Tr × Nat)
abbrev RC : Type := List Rq → Rq → Nat → Except Nat (Tr × Nat)
abbrev RN : Type := List Rq → Nat → Except Nat (Tr × Tr × Nat)
section READ
variable (L : Lw) (ents : List (Tr × Tr)) (tx : List Nat)
/-- the byte at a place, 300 behind the end -/
def byt (tx : List Nat) (p : Nat) : Nat := tx.getD p 300
/-- a type and a term that are inferred, if both are small enough -/
noncomputable def stl (Ty t : Tr) (n p q : Nat) : Except Nat (Tr × Tr × Nat) := cif (fits Ty n ∧ fits t n) (.ok (Ty, t, q)) (.error p)
/-- a part that is put together, if it is small enough -/
noncomputable def jn (t : Tr) (p q : Nat) : Except Nat (Tr × Nat) := cif (ln t ≤ 50) (.ok (t, q)) (.error p)
noncomputable def spT (rT : RT) (rC : RC) (vt : List Rq) (p : Nat) : Except Nat (Tr × Nat) :=
  if (byt tx p = 83 ∨ byt tx p = 80) ∧ vt.length < 10 then
    (rT vt (p + 1)).bind fun a => cif (byt tx p = 80 ∧ 80 ∈ enc a.1) (.error (p + 1)) ((rT (vt ++ [(a.1, idr vt.length)]) a.2).bind fun b => jn (.branch (byt tx p) a.1 b.1) p b.2)
  else if byt tx p = 49 then .ok (.leaf 49, p + 1)
  else if 65 ≤ byt tx p ∧ byt tx p - 65 < L.1.length then
    (match (L.1[byt tx p - 65]?).join with
      | some I => (rC vt (I, []) (p + 1)).bind fun t => jn (un (byt tx p) t.1) p t.2
      | none => .ok (.leaf (byt tx p), p + 1))
  else .error p
/-- whether an inferred type is the required one -/
def isReq (Ty : Tr) (rq : Rq) (n : Nat) : Prop := fits (nft rq.1 rq.2 n) n ∧ enc (nft rq.1 rq.2 n) = enc Ty
noncomputable def spC (rC : RC) (rI : RN) (vt : List Rq) (rq : Rq) (p : Nat) : Except Nat (Tr × Nat) :=
  if byt tx p = 42 then (if hdr rq.1 = 49 then .ok (.leaf 42, p + 1) else .error p)
  else if byt tx p = 44 then
    (if hdr rq.1 = 83 then (rC vt (fstT rq.1, rq.2) (p + 1)).bind fun a => (rC vt (sndT rq.1, rq.2 ++ [evD a.1 (idr vt.length)]) a.2).bind fun b => jn (.branch 44 a.1 b.1) p b.2 else .error p)
  else if byt tx p = 92 then
    (if hdr rq.1 = 80 ∧ vt.length < 10 then (rC (vt ++ [(fstT rq.1, rq.2)]) (sndT rq.1, rq.2 ++ [nm vt.length]) (p + 1)).bind fun a => jn (un 92 a.1) p a.2 else .error p)
  else (rI vt p).bind fun a => cif (isReq a.1 rq vt.length) (.ok (a.2.1, a.2.2)) (.error p)
noncomputable def spI (rT : RT) (rC : RC) (rI : RN) (vt : List Rq) (p : Nat) : Except Nat (Tr × Tr × Nat) :=
  if byt tx p = 35 then
    (match (if 48 ≤ byt tx (p + 1) then ents[byt tx (p + 1) - 48]? else none) with
      | some e => stl (nft e.1 [] vt.length) (qs (shp e.1) (evD e.2 []) vt.length) vt.length p (p + 2)
      | none => .error (p + 1))
  else if byt tx p = 58 then (rT vt (p + 1)).bind fun a => (rC vt (a.1, idr vt.length) a.2).bind fun b => .ok (a.1, b.1, b.2)
  else if byt tx p = 46 then
    (rI vt (p + 1)).bind fun a => if hdr a.1 = 80 then (rC vt (fstT a.1, idr vt.length) a.2.2).bind fun b => stl (nft (sndT a.1) (idr vt.length ++ [evD b.1 (idr vt.length)]) vt.length) (qs (shp (sndT a.1)) (gvD (evD a.2.1 (idr vt.length)) (evD b.1 (idr vt.length))) vt.length) vt.length p b.2 else .error (p + 1)
  else if byt tx p = 60 then
    (rI vt (p + 1)).bind fun a => if hdr a.1 = 83 then stl (nft (fstT a.1) (idr vt.length) vt.length) (qs (shp (fstT a.1)) (fstV (evD a.2.1 (idr vt.length))) vt.length) vt.length p a.2.2 else .error (p + 1)
  else if byt tx p = 62 then
    (rI vt (p + 1)).bind fun a => if hdr a.1 = 83 then stl (nft (sndT a.1) (idr vt.length ++ [fstV (evD a.2.1 (idr vt.length))]) vt.length) (qs (shp (sndT a.1)) (sndV (evD a.2.1 (idr vt.length))) vt.length) vt.length p a.2.2 else .error (p + 1)
  else if 48 ≤ byt tx p ∧ byt tx p - 48 < vt.length then
    (let rq := vt.getD (byt tx p - 48) (.leaf 0, []); stl (nft rq.1 rq.2 vt.length) (et (shp rq.1) (nm (byt tx p - 48)) vt.length) vt.length p (p + 1))
  else if 97 ≤ byt tx p ∧ byt tx p - 97 < L.2.length then
    (let T := L.2.getD (byt tx p - 97) (.leaf 0); stl (nft T [] vt.length) (et (shp T) (.leaf (byt tx p)) vt.length) vt.length p (p + 1))
  else .error p
/-- the three readers, with fuel -/
noncomputable def RD : Nat → RT × RC × RN
  | 0 => (fun _ _ => .error 1000, fun _ _ _ => .error 1000, fun _ _ => .error 1000)
  | f + 1 => (spT L tx (RD f).1 (RD f).2.1, spC tx (RD f).2.1 (RD f).2.2, spI L ents tx (RD f).1 (RD f).2.1 (RD f).2.2)
end READ
/-- the shapes of the names in force -/
def ctx (vt : List Rq) : List Tr := vt.map (fun rq => shp rq.1)
/-- types of names: each read where it was brought -/
def vtOK (L : Lw) (vt : List Rq) : Prop := vt.length ≤ 10 ∧ ∀ (k : Nat) (rq : Rq), vt[k]? = some rq → ∃ Γ, WT L rq.1 Γ ∧ enV L ((ctx vt).take k) rq.2 Γ ∧ dp rq.1 rq.2.length ∧ rq.2.length ≤ 10 ∧ ln rq.1 ≤ 50
/-- a required type -/
def rqOK (L : Lw) (vt : List Rq) (rq : Rq) : Prop := ∃ Γ, WT L rq.1 Γ ∧ enV L (ctx vt) rq.2 Γ ∧ dp rq.1 rq.2.length ∧ rq.2.length ≤ 10 ∧ ln rq.1 ≤ 50
/-- the laws: closed types, small enough -/
def lwOK (L : Lw) : Prop := L.1.length ≤ 3 ∧ L.2.length ≤ 4 ∧ (∀ (k : Nat) (I : Tr), L.1[k]? = some (some I) → WT L I [] ∧ dta (shp I) ∧ fits I 0) ∧ (∀ (k : Nat) (T : Tr), L.2[k]? = some T → WT L T [] ∧ fits T 0)
def entOK (L : Lw) (e : Tr × Tr) : Prop := WT L e.1 [] ∧ fits e.1 0 ∧ HT L e.2 [] true (shp e.1) ∧ fits e.2 0
theorem ctx_len (vt : List Rq) : (ctx vt).length = vt.length := by simp [ctx]
theorem ctx_snoc (vt : List Rq) (rq : Rq) : ctx (vt ++ [rq]) = ctx vt ++ [shp rq.1] := by simp [ctx]
theorem vt_snoc {L : Lw} {vt : List Rq} {rq : Rq} (h : vtOK L vt) (hr : rqOK L vt rq) (hn : vt.length < 10) : vtOK L (vt ++ [rq]) := by
  refine ⟨by simp; omega, fun k r hk => ?_⟩
  by_cases hl : k < vt.length
  · rw [List.getElem?_append_left hl] at hk
    rw [ctx_snoc, List.take_append_of_le_length (by rw [ctx_len]; omega)]
    exact h.2 k r hk
  · have := (List.getElem?_eq_some_iff.mp hk).1
    simp at this
    obtain rfl : k = vt.length := by omega
    simp at hk
    subst hk
    rw [ctx_snoc, List.take_append_of_le_length (by rw [ctx_len]; omega), List.take_of_length_le (by rw [ctx_len]; omega)]
    exact hr
theorem rq_snoc {L : Lw} {vt : List Rq} {rq rq' : Rq} (hr : rqOK L vt rq) : rqOK L (vt ++ [rq']) rq := by
  obtain ⟨Γ, h1, h2, h3⟩ := hr
  exact ⟨Γ, h1, by rw [ctx_snoc]; exact enV_wk _ h2, h3⟩
end SPEC

section MREAD13
variable {L : Lw} {ents : List (Tr × Tr)} {tx : List Nat}
/-- what is found: every kind of it -/
theorem CI_s (hw : WL L ents tx) {rT : RT} {rC : RC} {rI : RN} {K : Nat} (oT : okT L tx rT) (oC : okC L tx rC) (oI : okI L tx rI) (hT : CT L ents tx rT K) (hC : CC L ents tx rC K) (hI : CI L ents tx rI K) : CI L ents tx (spI L ents tx rT rC rI) (K + 1) := by
  intro vt rq nd p V E T P F σ hb hN h3 hK
  show RunI L ents tx vt σ p V E T P F nd rq (if byt tx p = 35 then _ else _)
  by_cases c35 : byt tx p = 35
  · rw [if_pos c35]
    exact CI_entry hw hb hN c35
  rw [if_neg c35]
  by_cases c58 : byt tx p = 58
  · rw [if_pos c58]
    exact CI_typed hw oT oC hT hC hb hN (by omega) c58
  rw [if_neg c58]
  by_cases c46 : byt tx p = 46
  · rw [if_pos c46]
    exact CI_app hw oC oI hC hI hb hN (by omega) c46
  rw [if_neg c46]
  by_cases c60 : byt tx p = 60
  · rw [if_pos c60]
    exact CI_take (k := 9) hw oI hI hb hN (by omega) (Or.inl ⟨rfl, c60⟩)
  rw [if_neg c60]
  by_cases c62 : byt tx p = 62
  · rw [if_pos c62]
    exact CI_take (k := 10) hw oI hI hb hN (by omega) (Or.inr ⟨rfl, c62⟩)
  rw [if_neg c62]
  by_cases cn : 48 ≤ byt tx p ∧ byt tx p - 48 < vt.length
  · rw [if_pos cn]
    exact CI_name hw hb hN cn
  rw [if_neg cn]
  by_cases cc : 97 ≤ byt tx p ∧ byt tx p - 97 < L.2.length
  · rw [if_pos cc]
    exact CI_const hw hb hN cc
  rw [if_neg cc]
  exact CI_no hw hb hN h3 (by unfold stands; omega) c35
end MREAD13

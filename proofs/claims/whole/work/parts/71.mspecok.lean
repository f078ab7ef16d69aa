section SPECOK
theorem eb_ok {α β : Type} {x : Except Nat α} {f : α → Except Nat β} {y : β} (h : x.bind f = .ok y) : ∃ a, x = .ok a ∧ f a = .ok y := by
  cases x with
  | error e => cases h
  | ok a => exact ⟨a, rfl, h⟩
theorem cif_ok {α : Type} {P : Prop} {e : Nat} {x : Except Nat α} {y : α} (h : cif P (.error e) x = .ok y) : ¬ P ∧ x = .ok y := by
  by_cases hp : P
  · rw [cif_pos hp] at h; cases h
  · rw [cif_neg hp] at h; exact ⟨hp, h⟩
theorem cif_ok2 {α : Type} {P : Prop} {e : Nat} {x : Except Nat α} {y : α} (h : cif P x (.error e) = .ok y) : P ∧ x = .ok y := by
  by_cases hp : P
  · rw [cif_pos hp] at h; exact ⟨hp, h⟩
  · rw [cif_neg hp] at h; cases h
theorem byt_lt {tx : List Nat} {p : Nat} (h : byt tx p ≠ 300) : p < tx.length := by
  by_cases hp : p < tx.length
  · exact hp
  · exact absurd (by simp [byt, List.getElem?_eq_none (Nat.not_lt.mp hp)]) h
theorem data_of {L : Lw} : ∀ (A : Tr) (Γ : List Tr), WT L A Γ → 80 ∉ enc A → dta (shp A) := by
  intro A
  induction A with
  | leaf s => intro Γ _ _; trivial
  | branch s a b iha ihb =>
    intro Γ h hn
    by_cases hs : s = 83 ∨ s = 80
    · obtain ⟨_, h1, h2⟩ := WT_SP h hs
      rw [enc] at hn
      simp only [List.mem_cons, List.mem_append, not_or] at hn
      rw [shp, if_pos hs]
      exact ⟨hs.resolve_right (fun e => hn.1 e.symm), iha _ h1 hn.2.1, ihb _ h2 hn.2.2⟩
    · rw [shp, if_neg hs]; trivial
theorem enV_nil (L : Lw) (N : List Tr) : enV L N [] [] := ⟨rfl, fun i s h => by simp at h⟩
theorem enE_nil (L : Lw) (N : List Tr) : enE L N [] [] := ⟨rfl, fun i s h => by simp at h⟩
theorem enV_ctx {L : Lw} {vt : List Rq} (h : vt.length ≤ 10) : enV L (ctx vt) (idr vt.length) (ctx vt) := by
  have := enV_id (L := L) (N := ctx vt) (by rw [ctx_len]; exact h)
  rwa [ctx_len] at this
theorem enE_ctx {L : Lw} {vt : List Rq} (h : vt.length ≤ 10) : enE L (ctx vt) (idr vt.length) (ctx vt) := by
  have := enE_id (L := L) (N := ctx vt) (by rw [ctx_len]; exact h)
  rwa [ctx_len] at this
theorem rq_id {L : Lw} {vt : List Rq} {A : Tr} (hv : vt.length ≤ 10) (h : WT L A (ctx vt)) (hf : fits A vt.length) : rqOK L vt (A, idr vt.length) := ⟨ctx vt, h, enV_ctx hv, by rw [idr_len]; exact hf.2, by rw [idr_len]; exact hv, hf.1⟩
theorem hdr_SP {L : Lw} (hL : L.1.length ≤ 3) {A : Tr} {Γ : List Tr} {c : Nat} (h : WT L A Γ) (hc : c = 83 ∨ c = 80) (hd : hdr A = c) : A = .branch c (fstT A) (sndT A) := by
  cases A with
  | leaf s =>
    simp only [hdr] at hd
    subst hd
    simp only [WT] at h
    rcases h with h | ⟨_, h⟩
    · omega
    · have := (List.getElem?_eq_some_iff.mp h).1
      omega
  | branch s a b =>
    simp only [hdr] at hd
    subst hd
    rfl
theorem ln_parts {c : Nat} {a b : Tr} (h : ln (.branch c a b) ≤ 50) : ln a ≤ 50 ∧ ln b ≤ 50 := by
  rw [ln_br] at h; omega
/-- the parts of a required pair or function type -/
theorem rq_fst {L : Lw} (hL : L.1.length ≤ 3) {vt : List Rq} {rq : Rq} {c : Nat} (hc : c = 83 ∨ c = 80) (hd : hdr rq.1 = c) (h : rqOK L vt rq) : rqOK L vt (fstT rq.1, rq.2) := by
  obtain ⟨Γ, h1, h2, h3, h4, h5⟩ := h
  have e := hdr_SP hL h1 hc hd
  rw [e] at h1 h3 h5
  obtain ⟨_, g1, g2⟩ := WT_SP h1 hc
  obtain ⟨d1, _, _⟩ := (dp_SP hc).mp h3
  exact ⟨Γ, g1, h2, d1, h4, (ln_parts h5).1⟩
theorem rq_snd {L : Lw} (hL : L.1.length ≤ 3) {vt : List Rq} {rq : Rq} {c : Nat} (hc : c = 83 ∨ c = 80) (hd : hdr rq.1 = c) (h : rqOK L vt rq) {v : Tr} (hv : EV L (ctx vt) (shp (fstT rq.1)) v) : rqOK L vt (sndT rq.1, rq.2 ++ [v]) := by
  obtain ⟨Γ, h1, h2, h3, h4, h5⟩ := h
  have e := hdr_SP hL h1 hc hd
  rw [e] at h1 h3 h5
  obtain ⟨_, g1, g2⟩ := WT_SP h1 hc
  obtain ⟨_, d2, d3⟩ := (dp_SP hc).mp h3
  exact ⟨_, g2, enV_snoc h2 hv, by simpa using d3, by simp; omega, (ln_parts h5).2⟩
theorem shp_SP {c : Nat} {A : Tr} (hc : c = 83 ∨ c = 80) (e : A = .branch c (fstT A) (sndT A)) : shp A = .branch c (shp (fstT A)) (shp (sndT A)) := by
  conv => lhs; rw [e]
  rw [shp, if_pos hc]
theorem stl_ok {Ty t : Tr} {n p q : Nat} {y : Tr × Tr × Nat} (h : stl Ty t n p q = .ok y) : fits Ty n ∧ fits t n ∧ y = (Ty, t, q) := by
  obtain ⟨h1, h2⟩ := cif_ok2 h
  injection h2 with h2
  exact ⟨h1.1, h1.2, h2.symm⟩
theorem jn_ok {t : Tr} {p q : Nat} {y : Tr × Nat} (h : jn t p q = .ok y) : ln t ≤ 50 ∧ y = (t, q) := by
  obtain ⟨h1, h2⟩ := cif_ok2 h
  injection h2 with h2
  exact ⟨h1, h2.symm⟩
theorem ar0 {f : Nat → Bool} {s : Nat} (h : s ≠ 83 ∧ s ≠ 80 ∧ s ≠ 46 ∧ s ≠ 44 ∧ s ≠ 60 ∧ s ≠ 62 ∧ s ≠ 92) (h2 : 65 ≤ s → s ≤ 67 → f (s - 65) = false) : ar f s = 0 := by
  unfold ar
  rw [if_neg (by omega), if_neg (by omega), if_neg]
  rintro ⟨h3, h4, h5⟩
  rw [h2 h3 h4] at h5
  cases h5
theorem HT_pr {L : Lw} (hL : L.2.length ≤ 4) (f : Nat → Bool) : ∀ (t : Tr) (Γ : List Tr) (m : Bool) (s : Tr), HT L t Γ m s → pr f t := by
  intro t
  induction t with
  | leaf c =>
    intro Γ m s h
    simp only [HT] at h
    have hc : c = 42 ∨ (48 ≤ c ∧ c < 58) ∨ (97 ≤ c ∧ c ≤ 100) := by
      rcases h with ⟨_, h, _⟩ | ⟨_, h⟩
      · exact Or.inl h
      · unfold hdS at h
        split at h
        · rename_i h1; exact Or.inr (Or.inl h1)
        · split at h
          · rename_i h2
            rw [Option.map_eq_some_iff] at h
            obtain ⟨a, h, _⟩ := h
            have := (List.getElem?_eq_some_iff.mp h).1
            exact Or.inr (Or.inr ⟨h2, by omega⟩)
          · simp at h
    exact ⟨by omega, by omega, ar0 (by omega) (by omega)⟩
  | branch c a b iha ihb =>
    intro Γ m s h
    simp only [HT] at h
    rcases h with ⟨h1, h2, x, y, h3, h4, h5⟩ | ⟨h1, h2, h3, x, y, h4, h5, h6⟩ | ⟨h0, ⟨h1, x, h2, h3, h4⟩ | ⟨h1, h2, y, h3⟩ | ⟨h1, h2, x, h3⟩⟩
    · subst h2; exact ⟨by decide, by decide, Or.inl ⟨rfl, iha _ _ _ h4, ihb _ _ _ h5⟩⟩
    · subst h2; exact ⟨by decide, by decide, Or.inr ⟨rfl, iha _ _ _ h6, h3⟩⟩
    · subst h1; exact ⟨by decide, by decide, Or.inl ⟨rfl, iha _ _ _ h3, ihb _ _ _ h4⟩⟩
    · subst h1; exact ⟨by decide, by decide, Or.inr ⟨rfl, iha _ _ _ h3, h2⟩⟩
    · subst h1; exact ⟨by decide, by decide, Or.inr ⟨rfl, iha _ _ _ h3, h2⟩⟩
/-- which families have an index -/
def fxL (L : Lw) (k : Nat) : Bool := (L.1[k]?).join.isSome
theorem WT_pr {L : Lw} (hL : L.1.length ≤ 3 ∧ L.2.length ≤ 4) {f : Nat → Bool} (hf : ∀ k, k < L.1.length → f k = fxL L k) : ∀ (T : Tr) (Γ : List Tr), WT L T Γ → pr f T := by
  intro T
  induction T with
  | leaf s =>
    intro Γ h
    simp only [WT] at h
    rcases h with rfl | ⟨h1, h2⟩
    · exact ⟨by decide, by decide, ar0 (by omega) (by omega)⟩
    · have hl := (List.getElem?_eq_some_iff.mp h2).1
      refine ⟨by omega, by omega, ar0 (by omega) (fun _ _ => ?_)⟩
      rw [hf _ hl, fxL, h2]; rfl
  | branch s a b iha ihb =>
    intro Γ h
    by_cases hs : s = 83 ∨ s = 80
    · obtain ⟨_, h1, h2⟩ := WT_SP h hs
      refine ⟨by omega, by omega, Or.inl ⟨?_, iha _ h1, ihb _ h2⟩⟩
      rcases hs with rfl | rfl <;> rfl
    · simp only [WT] at h
      rcases h with ⟨h1, _⟩ | ⟨h1, h2, h3, I, h4, h5, h6⟩
      · exact absurd (h1.imp_right And.left) hs
      · refine ⟨by omega, by omega, Or.inr ⟨?_, HT_pr hL.2 f _ _ _ _ h6, h3⟩⟩
        have hl := (List.getElem?_eq_some_iff.mp h4).1
        unfold ar
        rw [if_neg (by omega), if_neg (by omega), if_pos]
        refine ⟨h1, h2, ?_⟩
        rw [hf _ hl, fxL, h4]; rfl
/-- signs tell the form -/
theorem enc_inj {f : Nat → Bool} : ∀ (A B : Tr) (x y : List Nat), pr f A → pr f B → enc A ++ x = enc B ++ y → A = B ∧ x = y := by
  intro A
  induction A with
  | leaf s =>
    intro B x y hA hB h
    cases B with
    | leaf s' =>
      rw [enc, if_neg hA.1, enc, if_neg hB.1] at h
      simp at h
      exact ⟨by rw [h.1], h.2⟩
    | branch s' a' b' =>
      rw [enc, if_neg hA.1, enc] at h
      simp at h
      have h1 := hA.2.2
      rw [h.1] at h1
      rcases hB.2.2 with h2 | h2 <;> omega
  | branch s a b iha ihb =>
    intro B x y hA hB h
    cases B with
    | leaf s' =>
      rw [enc, enc, if_neg hB.1] at h
      simp at h
      have h1 := hB.2.2
      rw [← h.1] at h1
      rcases hA.2.2 with h2 | h2 <;> omega
    | branch s' a' b' =>
      rw [enc, enc] at h
      simp only [List.cons_append, List.cons.injEq, List.append_assoc] at h
      obtain ⟨rfl, h⟩ := h
      rcases hA.2.2 with ⟨h1, h2, h3⟩ | ⟨h1, h2, h3⟩
      · rcases hB.2.2 with ⟨g1, g2, g3⟩ | ⟨g1, g2, g3⟩
        · obtain ⟨e1, e2⟩ := iha _ _ _ h2 g2 h
          obtain ⟨e3, e4⟩ := ihb _ _ _ h3 g3 e2
          exact ⟨by rw [e1, e3], e4⟩
        · omega
      · rcases hB.2.2 with ⟨g1, g2, g3⟩ | ⟨g1, g2, g3⟩
        · omega
        · obtain ⟨e1, e2⟩ := iha _ _ _ h2 g2 h
          subst h3 g3
          simp [enc] at e2
          exact ⟨by rw [e1], e2⟩
section ALL
variable {L : Lw} {ents : List (Tr × Tr)} {tx : List Nat}
def okT (L : Lw) (tx : List Nat) (r : RT) : Prop := ∀ vt p y, vtOK L vt → r vt p = .ok y → WT L y.1 (ctx vt) ∧ fits y.1 vt.length ∧ p < y.2 ∧ y.2 ≤ tx.length
def okC (L : Lw) (tx : List Nat) (r : RC) : Prop := ∀ vt rq p y, vtOK L vt → rqOK L vt rq → r vt rq p = .ok y → HT L y.1 (ctx vt) true (shp rq.1) ∧ fits y.1 vt.length ∧ p < y.2 ∧ y.2 ≤ tx.length
def okI (L : Lw) (tx : List Nat) (r : RN) : Prop := ∀ vt p y, vtOK L vt → r vt p = .ok y → WT L y.1 (ctx vt) ∧ HT L y.2.1 (ctx vt) true (shp y.1) ∧ fits y.1 vt.length ∧ fits y.2.1 vt.length ∧ p < y.2.2 ∧ y.2.2 ≤ tx.length
theorem okT_s (hlw : lwOK L) {rT : RT} {rC : RC} (hT : okT L tx rT) (hC : okC L tx rC) : okT L tx (spT L tx rT rC) := by
  intro vt p y hvt h
  unfold spT at h
  by_cases hb : (byt tx p = 83 ∨ byt tx p = 80) ∧ vt.length < 10
  · rw [if_pos hb] at h
    obtain ⟨a, h1, h2⟩ := eb_ok h
    obtain ⟨h3, h4⟩ := cif_ok h2
    obtain ⟨b, h5, h6⟩ := eb_ok h4
    obtain ⟨h7, rfl⟩ := jn_ok h6
    obtain ⟨a1, a2, a3, a4⟩ := hT _ _ _ hvt h1
    have hv' := vt_snoc hvt (rq_id hvt.1 a1 a2) hb.2
    obtain ⟨b1, b2, b3, b4⟩ := hT _ _ _ hv' h5
    rw [ctx_snoc] at b1
    simp only [List.length_append, List.length_singleton] at b2
    refine ⟨?_, ⟨h7, (dp_SP hb.1).mpr ⟨a2.2, hb.2, b2.2⟩⟩, by show p < b.2; omega, b4⟩
    simp only [WT]
    refine Or.inl ⟨?_, a1, b1⟩
    rcases hb.1 with e | e
    · exact Or.inl e
    · exact Or.inr ⟨e, data_of _ _ a1 (fun hm => h3 ⟨e, hm⟩)⟩
  · rw [if_neg hb] at h
    by_cases h49 : byt tx p = 49
    · rw [if_pos h49] at h
      injection h with h
      subst h
      have := byt_lt (tx := tx) (p := p) (by omega)
      exact ⟨Or.inl rfl, ⟨by simp [enc], trivial⟩, by show p < p + 1; omega, by show p + 1 ≤ _; omega⟩
    · rw [if_neg h49] at h
      by_cases hf : 65 ≤ byt tx p ∧ byt tx p - 65 < L.1.length
      · rw [if_pos hf] at h
        have hl3 := hlw.1
        have hp := byt_lt (tx := tx) (p := p) (by omega)
        cases hI : (L.1[byt tx p - 65]?).join with
        | none =>
          rw [hI] at h
          injection h with h
          subst h
          refine ⟨Or.inr ⟨hf.1, ?_⟩, ⟨by simp only [enc]; split <;> simp, trivial⟩, by show p < p + 1; omega, by show p + 1 ≤ _; omega⟩
          rw [List.getElem?_eq_getElem hf.2] at hI ⊢
          simpa using hI
        | some I =>
          rw [hI] at h
          have hI' : L.1[byt tx p - 65]? = some (some I) := by
            rw [List.getElem?_eq_getElem hf.2] at hI ⊢
            simpa using hI
          obtain ⟨w1, w2, w3⟩ := hlw.2.2.1 _ _ hI'
          obtain ⟨t, h1, h2⟩ := eb_ok h
          obtain ⟨h3, rfl⟩ := jn_ok h2
          obtain ⟨t1, t2, t3, t4⟩ := hC _ _ _ _ hvt ⟨[], w1, enV_nil _ _, w3.2, by simp, w3.1⟩ h1
          refine ⟨?_, ⟨h3, ?_⟩, by show p < t.2; omega, t4⟩
          · rw [WT.eq_2]
            exact Or.inr ⟨hf.1, by omega, rfl, I, hI', w2, t1⟩
          · rw [un, dp_F hf.1 (by omega)]
            exact ⟨t2.2, trivial⟩
      · rw [if_neg hf] at h; cases h
theorem okC_s (hlw : lwOK L) {rC : RC} {rI : RN} (hC : okC L tx rC) (hI : okI L tx rI) : okC L tx (spC tx rC rI) := by
  intro vt rq p y hvt hrq h
  have hl3 := hlw.1
  unfold spC at h
  by_cases h42 : byt tx p = 42
  · rw [if_pos h42] at h
    by_cases hh : hdr rq.1 = 49
    · rw [if_pos hh] at h
      injection h with h
      subst h
      have := byt_lt (tx := tx) (p := p) (by omega)
      refine ⟨?_, ⟨by simp [enc], trivial⟩, by show p < p + 1; omega, by show p + 1 ≤ _; omega⟩
      obtain ⟨Γ, w, _⟩ := hrq
      have : shp rq.1 = .leaf 49 := by
        generalize rq.1 = T at hh w
        cases T with
        | leaf s => simp only [hdr] at hh; subst hh; rfl
        | branch s a b =>
          simp only [hdr] at hh
          subst hh
          simp only [WT] at w
          rcases w with ⟨w, _⟩ | ⟨w, _⟩ <;> simp at w
      rw [this, HT.eq_1]
      exact Or.inl ⟨rfl, rfl, rfl⟩
    · rw [if_neg hh] at h; cases h
  · rw [if_neg h42] at h
    by_cases h44 : byt tx p = 44
    · rw [if_pos h44] at h
      by_cases hh : hdr rq.1 = 83
      · rw [if_pos hh] at h
        obtain ⟨a, h1, h2⟩ := eb_ok h
        obtain ⟨b, h3, h4⟩ := eb_ok h2
        obtain ⟨h5, rfl⟩ := jn_ok h4
        obtain ⟨a1, a2, a3, a4⟩ := hC _ _ _ _ hvt (rq_fst hl3 (Or.inl rfl) hh hrq) h1
        have hval := (T1 _ _ _ _ _ a1 (enE_ctx hvt.1)).2.1 rfl
        obtain ⟨b1, b2, b3, b4⟩ := hC _ _ _ _ hvt (rq_snd hl3 (Or.inl rfl) hh hrq (RV_EV _ _ hval)) h3
        obtain ⟨Γ, w, _⟩ := hrq
        refine ⟨?_, ⟨h5, by simp only [dp]; exact ⟨a2.2, b2.2⟩⟩, by show p < b.2; omega, b4⟩
        rw [shp_SP (Or.inl rfl) (hdr_SP hl3 w (Or.inl rfl) hh), HT.eq_2]
        exact Or.inl ⟨rfl, rfl, _, _, rfl, a1, b1⟩
      · rw [if_neg hh] at h; cases h
    · rw [if_neg h44] at h
      by_cases h92 : byt tx p = 92
      · rw [if_pos h92] at h
        by_cases hh : hdr rq.1 = 80 ∧ vt.length < 10
        · rw [if_pos hh] at h
          obtain ⟨a, h1, h2⟩ := eb_ok h
          obtain ⟨h5, rfl⟩ := jn_ok h2
          have r1 := rq_fst hl3 (Or.inr rfl) hh.1 hrq
          have hv' := vt_snoc hvt r1 hh.2
          have r2 : rqOK L (vt ++ [(fstT rq.1, rq.2)]) (sndT rq.1, rq.2 ++ [nm vt.length]) := by
            refine rq_snd hl3 (Or.inr rfl) hh.1 (rq_snoc hrq) ?_
            rw [ctx_snoc]
            exact EV_nm (ctx_len vt) hh.2
          obtain ⟨a1, a2, a3, a4⟩ := hC _ _ _ _ hv' r2 h1
          obtain ⟨Γ, w, _⟩ := hrq
          have ew := hdr_SP hl3 w (Or.inr rfl) hh.1
          rw [ctx_snoc] at a1
          simp only [List.length_append, List.length_singleton] at a2
          refine ⟨?_, ⟨h5, by simp only [un, dp, if_true]; exact ⟨hh.2, a2.2⟩⟩, by show p < a.2; omega, a4⟩
          rw [shp_SP (Or.inr rfl) ew, un, HT.eq_2]
          rw [ew] at w
          exact Or.inr (Or.inl ⟨rfl, rfl, rfl, _, _, rfl, (WT_SP w (Or.inr rfl)).1 rfl, a1⟩)
        · rw [if_neg hh] at h; cases h
      · rw [if_neg h92] at h
        obtain ⟨a, h1, h2⟩ := eb_ok h
        obtain ⟨h3, h4⟩ := cif_ok2 h2
        injection h4 with h4
        subst h4
        obtain ⟨i1, i2, i3, i4, i5, i6⟩ := hI _ _ _ hvt h1
        obtain ⟨Γ, w, e1, e2, e3, e4⟩ := hrq
        have wn := nft_WT _ _ _ _ _ w e1 (ctx_len vt) ((dp_nft _ _ _ _ _ w e1 (ctx_len vt)).mp h3.1.2)
        have hL34 : L.1.length ≤ 3 ∧ L.2.length ≤ 4 := ⟨hl3, hlw.2.1⟩
        have e5 := (enc_inj (f := fxL L) _ _ [] [] (WT_pr hL34 (fun _ _ => rfl) _ _ wn) (WT_pr hL34 (fun _ _ => rfl) _ _ i1) (by simpa using h3.2)).1
        rw [← nft_shp rq.1 rq.2 vt.length, e5]
        exact ⟨i2, i4, i5, i6⟩
/-- what is inferred and small enough -/
theorem okI_s (hlw : lwOK L) (hent : ∀ e ∈ ents, entOK L e) (hne : ents.length ≤ 6) {rT : RT} {rC : RC} {rI : RN} (hT : okT L tx rT) (hC : okC L tx rC) (hI : okI L tx rI) : okI L tx (spI L ents tx rT rC rI) := by
  intro vt p y hvt h
  have hl3 := hlw.1
  have hN := ctx_len vt
  have hid := enE_ctx (L := L) hvt.1
  have hidV := enV_ctx (L := L) hvt.1
  unfold spI at h
  by_cases h35 : byt tx p = 35
  · rw [if_pos h35] at h
    cases he : (if 48 ≤ byt tx (p + 1) then ents[byt tx (p + 1) - 48]? else none) with
    | none => rw [he] at h; cases h
    | some e =>
      rw [he] at h
      obtain ⟨s1, s2, rfl⟩ := stl_ok h
      split at he
      · rename_i h48
        have hlt := (List.getElem?_eq_some_iff.mp he).1
        obtain ⟨w1, w2, w3, w4⟩ := hent e (List.mem_of_getElem? he)
        have hp2 := byt_lt (tx := tx) (p := p + 1) (by
          omega)
        have wn := nft_WT _ _ _ _ _ w1 (enV_nil L (ctx vt)) hN ((dp_nft _ _ _ _ _ w1 (enV_nil L (ctx vt)) hN).mp s1.2)
        have val := (T1 _ _ _ _ _ w3 (enE_nil L (ctx vt))).2.1 rfl
        refine ⟨wn, ?_, s1, s2, by show p < p + 2; omega, by show p + 2 ≤ _; omega⟩
        rw [nft_shp]
        exact qs_HT _ _ _ _ hN val s2.2
      · cases he
  rw [if_neg h35] at h
  by_cases h58 : byt tx p = 58
  · rw [if_pos h58] at h
    obtain ⟨a, h1, h2⟩ := eb_ok h
    obtain ⟨b, h3, h4⟩ := eb_ok h2
    injection h4 with h4
    subst h4
    obtain ⟨a1, a2, a3, a4⟩ := hT _ _ _ hvt h1
    obtain ⟨b1, b2, b3, b4⟩ := hC _ _ _ _ hvt (rq_id hvt.1 a1 a2) h3
    exact ⟨a1, b1, a2, b2, by show p < b.2; omega, b4⟩
  rw [if_neg h58] at h
  by_cases h46 : byt tx p = 46
  · rw [if_pos h46] at h
    obtain ⟨a, h1, h2⟩ := eb_ok h
    obtain ⟨a1, a2, a3, a4, a5, a6⟩ := hI _ _ _ hvt h1
    by_cases hh : hdr a.1 = 80
    · rw [if_pos hh] at h2
      obtain ⟨b, h3, h4⟩ := eb_ok h2
      obtain ⟨s1, s2, rfl⟩ := stl_ok h4
      have ew := hdr_SP hl3 a1 (Or.inr rfl) hh
      have hsh := shp_SP (Or.inr rfl) ew
      have hrq := rq_id hvt.1 a1 a3
      obtain ⟨b1, b2, b3, b4⟩ := hC _ _ _ _ hvt (rq_fst hl3 (Or.inr rfl) hh hrq) h3
      have vb := (T1 _ _ _ _ _ b1 hid).2.1 rfl
      have va := (T1 _ _ _ _ _ a2 hid).2.1 rfl
      rw [hsh] at va
      have hclo : clo L (ctx vt) (evD a.2.1 (idr vt.length)) (shp (fstT a.1)) (shp (sndT a.1)) := by
        rcases va with ⟨h, _⟩ | ⟨_, h⟩
        · exact absurd h (by decide)
        · exact h
      have hd : dta (shp (fstT a.1)) := by obtain ⟨_, _, _, _, _, h, _⟩ := hclo; exact h
      have vr := clo_gv hclo (RV_EF _ _ hd vb)
      obtain ⟨Γ, w, e1, e2, e3, e4⟩ := rq_snd hl3 (Or.inr rfl) hh hrq (RV_EV _ _ vb)
      have wn := nft_WT _ _ _ _ _ w e1 hN ((dp_nft _ _ _ _ _ w e1 hN).mp s1.2)
      refine ⟨wn, ?_, s1, s2, by show p < b.2; omega, b4⟩
      rw [nft_shp]
      exact qs_HT _ _ _ _ hN vr s2.2
    · rw [if_neg hh] at h2; cases h2
  rw [if_neg h46] at h
  by_cases h60 : byt tx p = 60
  · rw [if_pos h60] at h
    obtain ⟨a, h1, h2⟩ := eb_ok h
    obtain ⟨a1, a2, a3, a4, a5, a6⟩ := hI _ _ _ hvt h1
    by_cases hh : hdr a.1 = 83
    · rw [if_pos hh] at h2
      obtain ⟨s1, s2, rfl⟩ := stl_ok h2
      have ew := hdr_SP hl3 a1 (Or.inl rfl) hh
      have hsh := shp_SP (Or.inl rfl) ew
      have hrq := rq_id hvt.1 a1 a3
      have va := (T1 _ _ _ _ _ a2 hid).2.1 rfl
      rw [hsh] at va
      have vf : RV L (ctx vt) (shp (fstT a.1)) (fstV (evD a.2.1 (idr vt.length))) := by
        rcases va with ⟨_, x, y, e, h3, h4⟩ | ⟨h, _⟩
        · rw [e]; simpa [fstV] using h3
        · exact absurd h (by decide)
      obtain ⟨Γ, w, e1, e2, e3, e4⟩ := rq_fst hl3 (Or.inl rfl) hh hrq
      have wn := nft_WT _ _ _ _ _ w e1 hN ((dp_nft _ _ _ _ _ w e1 hN).mp s1.2)
      refine ⟨wn, ?_, s1, s2, by show p < a.2.2; omega, a6⟩
      rw [nft_shp]
      exact qs_HT _ _ _ _ hN vf s2.2
    · rw [if_neg hh] at h2; cases h2
  rw [if_neg h60] at h
  by_cases h62 : byt tx p = 62
  · rw [if_pos h62] at h
    obtain ⟨a, h1, h2⟩ := eb_ok h
    obtain ⟨a1, a2, a3, a4, a5, a6⟩ := hI _ _ _ hvt h1
    by_cases hh : hdr a.1 = 83
    · rw [if_pos hh] at h2
      obtain ⟨s1, s2, rfl⟩ := stl_ok h2
      have ew := hdr_SP hl3 a1 (Or.inl rfl) hh
      have hsh := shp_SP (Or.inl rfl) ew
      have hrq := rq_id hvt.1 a1 a3
      have va := (T1 _ _ _ _ _ a2 hid).2.1 rfl
      rw [hsh] at va
      have vf : RV L (ctx vt) (shp (fstT a.1)) (fstV (evD a.2.1 (idr vt.length))) ∧ RV L (ctx vt) (shp (sndT a.1)) (sndV (evD a.2.1 (idr vt.length))) := by
        rcases va with ⟨_, x, y, e, h3, h4⟩ | ⟨h, _⟩
        · rw [e]; exact ⟨by simpa [fstV] using h3, by simpa [sndV] using h4⟩
        · exact absurd h (by decide)
      obtain ⟨Γ, w, e1, e2, e3, e4⟩ := rq_snd hl3 (Or.inl rfl) hh hrq (RV_EV _ _ vf.1)
      have wn := nft_WT _ _ _ _ _ w e1 hN ((dp_nft _ _ _ _ _ w e1 hN).mp s1.2)
      refine ⟨wn, ?_, s1, s2, by show p < a.2.2; omega, a6⟩
      rw [nft_shp]
      exact qs_HT _ _ _ _ hN vf.2 s2.2
    · rw [if_neg hh] at h2; cases h2
  rw [if_neg h62] at h
  by_cases hv : 48 ≤ byt tx p ∧ byt tx p - 48 < vt.length
  · rw [if_pos hv] at h
    obtain ⟨s1, s2, rfl⟩ := stl_ok h
    have hv10 := hvt.1
    have hp := byt_lt (tx := tx) (p := p) (by omega)
    have hk : vt[byt tx p - 48]? = some (vt.getD (byt tx p - 48) (.leaf 0, [])) := by simp [hv.2]
    generalize vt.getD (byt tx p - 48) (.leaf 0, []) = rq at hk s1 s2 ⊢
    obtain ⟨Γ, w, e1, e2, e3, e4⟩ := hvt.2 _ _ hk
    have e1' : enV L (ctx vt) rq.2 Γ := by
      have := enV_wk ((ctx vt).drop (byt tx p - 48)) e1
      rwa [List.take_append_drop] at this
    have wn := nft_WT _ _ _ _ _ w e1' hN ((dp_nft _ _ _ _ _ w e1' hN).mp s1.2)
    refine ⟨wn, ?_, s1, s2, by show p < p + 1; omega, by show p + 1 ≤ _; omega⟩
    rw [nft_shp]
    refine et_HT _ _ _ _ (WT_wfs _ _ w) (HT_nmi ?_ (by omega)) hN s2.2
    rw [ctx, List.getElem?_map, hk]; rfl
  rw [if_neg hv] at h
  by_cases hc : 97 ≤ byt tx p ∧ byt tx p - 97 < L.2.length
  · rw [if_pos hc] at h
    obtain ⟨s1, s2, rfl⟩ := stl_ok h
    have hl4 := hlw.2.1
    have hp := byt_lt (tx := tx) (p := p) (by omega)
    have hk : L.2[byt tx p - 97]? = some (L.2.getD (byt tx p - 97) (.leaf 0)) := by simp [hc.2]
    generalize L.2.getD (byt tx p - 97) (.leaf 0) = T at hk s1 s2 ⊢
    obtain ⟨w, f⟩ := hlw.2.2.2 _ _ hk
    have wn := nft_WT _ _ _ _ _ w (enV_nil L (ctx vt)) hN ((dp_nft _ _ _ _ _ w (enV_nil L (ctx vt)) hN).mp s1.2)
    refine ⟨wn, ?_, s1, s2, by show p < p + 1; omega, by show p + 1 ≤ _; omega⟩
    rw [nft_shp]
    refine et_HT _ _ _ _ (WT_wfs _ _ w) ?_ hN s2.2
    rw [HT.eq_1]
    refine Or.inr ⟨fun h => by simp at h, ?_⟩
    unfold hdS
    rw [if_neg (by omega), if_pos hc.1, hk]; rfl
  rw [if_neg hc] at h
  cases h
/-- what the readers read is well formed -/
theorem okRD (hlw : lwOK L) (hent : ∀ e ∈ ents, entOK L e) (hne : ents.length ≤ 6) : ∀ f, okT L tx (RD L ents tx f).1 ∧ okC L tx (RD L ents tx f).2.1 ∧ okI L tx (RD L ents tx f).2.2 := by
  intro f
  induction f with
  | zero =>
    refine ⟨fun vt p y _ h => ?_, fun vt rq p y _ _ h => ?_, fun vt p y _ h => ?_⟩ <;> cases h
  | succ f ih => exact ⟨okT_s hlw ih.1 ih.2.1, okC_s hlw ih.2.1 ih.2.2, okI_s hlw hent hne ih.1 ih.2.1 ih.2.2⟩
end ALL
end SPECOK

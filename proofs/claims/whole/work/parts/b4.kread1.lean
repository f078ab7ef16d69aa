section KREAD1
variable {L : Lw} {ents : List (Tr × Tr)} {tx : List Nat}
theorem okc_2 {σ τ : CS} (h : τ.2 = σ.2) (j K : Nat) : okc τ j K = okc σ j K := by
  unfold okc knd ndC
  rw [h]
theorem rfv_2 {σ τ : CS} (h : τ.2 = σ.2) (j k : Nat) : rfv τ j k = rfv σ j k := by
  unfold rfv
  rw [h]
theorem lnC_2 {σ τ : CS} (h : τ.2 = σ.2) (j : Nat) : lnC τ j = lnC σ j := by
  unfold lnC
  rw [h]
/-- a kept form -/
def formK (σ : CS) (f : Nat) (t : Tr) : Prop := okc σ f 1 = true ∧ ∃ r, rfv σ f 0 = some r ∧ 49 ≤ r ∧ okc σ r 12 = true ∧ lnC σ r = ln t ∧ ∀ k, k < ln t → σ.1 r k = i32 ((enc t).getD k 0)
def entK (σ : CS) (c : Nat) (x : Tr × Tr) : Prop := okc σ c 0 = true ∧ ∃ f g, rfv σ c 0 = some f ∧ rfv σ c 1 = some g ∧ formK σ f x.1 ∧ formK σ g x.2
def shK (σ : CS) (a : Nat) (ents : List (Tr × Tr)) : Prop := okc σ a 5 = true ∧ σ.1 a 1 = i32 ents.length ∧ ents.length ≤ 6 ∧ ∃ r, rfv σ a 0 = some r ∧ okc σ r 15 = true ∧ lnC σ r = 6 ∧ ∀ (e : Nat) (x : Tr × Tr), ents[e]? = some x → ∃ c, rfv σ r e = some c ∧ entK σ c x
theorem formK_ch {A : List Nat} {σ τ : CS} {f : Nat} {t : Tr} (h : formK σ f t) (hc : chK A σ τ) (hA : ∀ j ∈ A, j < 49) : formK τ f t := by
  obtain ⟨a1, r, a2, a3, a4, a5, a6⟩ := h
  exact ⟨by rw [okc_2 hc.1]; exact a1, r, by rw [rfv_2 hc.1]; exact a2, a3, by rw [okc_2 hc.1]; exact a4, by rw [lnC_2 hc.1]; exact a5, fun k hk => by rw [hc.2.1 r (fun h => by have := hA r h; omega)]; exact a6 k hk⟩
theorem entK_ch {A : List Nat} {σ τ : CS} {c : Nat} {x : Tr × Tr} (h : entK σ c x) (hc : chK A σ τ) (hA : ∀ j ∈ A, j < 49) : entK τ c x := by
  obtain ⟨a1, f, g, a2, a3, a4, a5⟩ := h
  exact ⟨by rw [okc_2 hc.1]; exact a1, f, g, by rw [rfv_2 hc.1]; exact a2, by rw [rfv_2 hc.1]; exact a3, formK_ch a4 hc hA, formK_ch a5 hc hA⟩
theorem shK_ch {A : List Nat} {σ τ : CS} {a : Nat} (h : shK σ a ents) (hc : chK A σ τ) (hA : ∀ j ∈ A, j < 49) (ha : a ∉ A) : shK τ a ents := by
  obtain ⟨a1, a2, a3, r, a4, a5, a6, a7⟩ := h
  refine ⟨by rw [okc_2 hc.1]; exact a1, by rw [hc.2.1 a ha]; exact a2, a3, r, by rw [rfv_2 hc.1]; exact a4, by rw [okc_2 hc.1]; exact a5, by rw [lnC_2 hc.1]; exact a6, fun e x hx => ?_⟩
  obtain ⟨c, b1, b2⟩ := a7 e x hx
  exact ⟨c, by rw [rfv_2 hc.1]; exact b1, entK_ch b2 hc hA⟩
theorem AK_lt : ∀ j ∈ AK, j < 49 := by decide
/-- what the class's reading does not touch -/
def RK (L : Lw) (ents : List (Tr × Tr)) (tx : List Nat) (σ : CS) (T : Nat) : Prop := lwP L σ T ∧ σ.1 43 5 = i32 tx.length ∧ rfv σ 43 4 = some 1 ∧ (∀ k, k < tx.length → σ.1 1 k = i32 (byt tx k)) ∧ ∃ a, rfv σ 43 6 = some a ∧ shK σ a ents ∧ a ∉ AK
theorem RK_go {σ τ : CS} {V T T' : Nat} (h : RK L ents tx σ T) (hk : kpK σ τ V T) (hc : chK AK σ τ) (hT : T ≤ T') : RK L ents tx τ T' := by
  obtain ⟨a1, a2, a3, a4, a, a5, a6, a7⟩ := h
  exact ⟨lwP_kp a1 hk hc n36K n37K hT, by rw [hc.2.2.2.1 5 (by decide)]; exact a2, by rw [rfv_2 hc.1]; exact a3, fun k hk' => by rw [hc.2.1 1 (by decide)]; exact a4 k hk', a, by rw [rfv_2 hc.1]; exact a5, shK_ch a6 hc AK_lt a7, a7⟩
theorem lwP_fx {σ : CS} {T : Nat} (hl : L.1.length ≤ 3) (h : lwP L σ T) (hT : T ≤ 3600) : ∀ k, k < L.1.length → fxK σ k = fxL L k := by
  intro k hk
  unfold fxK fxL
  rw [h.1, show decide (i32 k < i32 L.1.length) = true from decide_eq_true (by rw [z_lt (by omega) (by omega)]; exact hk), Bool.true_and]
  cases hj : L.1[k]? with
  | none => exact absurd (List.getElem?_eq_none_iff.mp hj) (by omega)
  | some x =>
    cases x with
    | none =>
      rw [h.2.2.2.1 k hj]
      rfl
    | some I =>
      obtain ⟨q, b1, b2, b3, b4⟩ := h.2.2.1 k I hj
      rw [b1]
      have : ¬ (i32 q = -1) := i_ne1 (by omega)
      simp [this]
/-- how far the class's reading has come -/
def DK (vt : List Rq) (σ : CS) (V T p : Nat) : Prop := σ.1 34 1 = i32 T ∧ σ.1 38 4 = i32 V ∧ 1 ≤ V ∧ V ≤ 1 + 27 * p ∧ T ≤ 350 + 100 * p ∧ σ.1 43 7 = i32 p ∧ (∀ k, k ≤ vt.length → ∃ e, σ.1 45 k = i32 e ∧ rpK σ V T true (eL (idr k)) e) ∧ ∀ (k : Nat) (rq : Rq), vt[k]? = some rq → ∃ q, σ.1 42 k = i32 q ∧ tyK σ V T rq.1 rq.2 q
/-- what the class's reading leaves as it was -/
def FK (σ τ : CS) (V T n : Nat) : Prop := kpK σ τ V T ∧ chK AK σ τ ∧ (∀ k, k < n → τ.1 42 k = σ.1 42 k) ∧ ∀ k, k ≤ n → τ.1 45 k = σ.1 45 k
theorem FK_tr {σ τ υ : CS} {V T n V' T' n' : Nat} (h : FK σ τ V T n) (g : FK τ υ V' T' n') (hV : V ≤ V') (hT : T ≤ T') (hn : n ≤ n') : FK σ υ V T n := ⟨kK_tr h.1 g.1 hV hT, cK_tr h.2.1 g.2.1, fun k hk => (g.2.2.1 k (by omega)).trans (h.2.2.1 k hk), fun k hk => (g.2.2.2 k (by omega)).trans (h.2.2.2 k hk)⟩
theorem FK_AV {σ τ : CS} {V T n : Nat} (hk : kpK σ τ V T) (hc : chK AV σ τ) : FK σ τ V T n := ⟨hk, cVK hc, fun k _ => by rw [hc.2.1 42 (by decide)], fun k _ => by rw [hc.2.1 45 (by decide)]⟩
theorem FK_AS {σ τ : CS} {V T n : Nat} (hk : kpK σ τ V T) (hc : chK AS σ τ) (h42 : ∀ k, k < n → τ.1 42 k = σ.1 42 k) : FK σ τ V T n := ⟨hk, cSK hc, h42, fun k _ => by rw [hc.2.1 45 (by decide)]⟩
theorem FK_43 (σ : CS) (k : Nat) (x : Int32) (V T n : Nat) (hk : 6 < k ∧ k < 12) : FK σ (sI σ 43 k x) V T n := ⟨c43_kp _ _ _ _ _, cK_sI σ x (by decide) (by omega) (fun _ => hk), fun j _ => sI_ne _ _ (Or.inl (by decide)), fun j _ => sI_ne _ _ (Or.inl (by decide))⟩
theorem FK_rf (σ : CS) (V T n : Nat) : FK σ σ V T n := ⟨kK_rf _ _ _, cK_rf _ _, fun _ _ => rfl, fun _ _ => rfl⟩
theorem FK_fx {σ τ : CS} {V T n : Nat} (h : FK σ τ V T n) : fxK τ = fxK σ := cK_fx h.2.1 n36K
theorem DK_go {vt : List Rq} {σ τ : CS} {V T p V' T' q : Nat} (h : DK vt σ V T p) (hf : FK σ τ V T vt.length) (h1 : τ.1 34 1 = i32 T') (hV : τ.1 38 4 = i32 V') (h7 : τ.1 43 7 = i32 q) (hV1 : V ≤ V') (hV2 : V' ≤ 1 + 27 * q) (hT1 : T ≤ T') (hT2 : T' ≤ 350 + 100 * q) : DK vt τ V' T' q := by
  obtain ⟨a1, a2, a3, a4, a5, a6, a7, a8⟩ := h
  have fx := FK_fx hf
  refine ⟨h1, hV, by omega, hV2, hT2, h7, fun k hk => ?_, fun k rq hk => ?_⟩
  · obtain ⟨e, b1, b2⟩ := a7 k hk
    exact ⟨e, by rw [hf.2.2.2 k hk]; exact b1, rK_kp hf.1 fx hV1 hT1 _ _ _ b2⟩
  · have hlt := (List.getElem?_eq_some_iff.mp hk).1
    obtain ⟨q, b1, b2⟩ := a8 k rq hk
    exact ⟨q, by rw [hf.2.2.1 k hlt]; exact b1, tyK_kp hf.1 fx hV1 hT1 b2⟩
theorem RdP_of {vt : List Rq} {σ : CS} {V T p : Nat} (hv : vtOK L vt) (hs : RK L ents tx σ T) (hd : DK vt σ V T p) (hp : p ≤ 33) : RdP L (ctx vt) σ V T := by
  obtain ⟨a1, a2, a3, a4, a5, a6, a7, a8⟩ := hd
  refine ⟨hs.1, a1, a2, a3, by omega, by rw [ctx_len]; exact hv.1, fun k x hk => ?_⟩
  unfold ctx at hk
  rw [List.getElem?_map] at hk
  cases hj : vt[k]? with
  | none => rw [hj] at hk; simp at hk
  | some rq =>
    rw [hj] at hk
    simp at hk
    subst hk
    obtain ⟨q, b1, b2⟩ := a8 k rq hj
    exact ⟨q, b1, tyK_S b2⟩
/-- what inferring answers -/
def Rn0 (f : Option (Int32 × CS)) (n : Nat) (σ : CS) (p V T : Nat) (r : Except Nat (Tr × Tr × Nat)) : Prop :=
  match r with
  | .ok y => ∃ g h τ T', f = some (i32 g, τ) ∧ τ.1 38 4 = i32 V ∧ τ.1 34 1 = i32 T' ∧ T ≤ T' ∧ T' ≤ T + 100 * (y.2.2 - p) ∧ τ.1 43 7 = i32 y.2.2 ∧ FK σ τ V T n ∧ fm (τ.1 35) y.2.1 g ∧ g + ln y.2.1 ≤ T' ∧ τ.1 43 9 = i32 h ∧ fm (τ.1 35) y.1 h ∧ h + ln y.1 ≤ T'
  | .error e => e ≤ 40 ∧ ∃ τ, f = some (-1, τ) ∧ τ.1 43 8 = i32 e ∧ chK AK σ τ
/-- a method that reads a part of what is inferred, with the end of inferring behind it -/
def InO (L : Lw) (ents : List (Tr × Tr)) (tx : List Nat) (f : Option (Int32 × CS)) (n : Nat) (σ : CS) (p V T : Nat) (r : Except Nat (Tr × Tr × Nat)) : Prop := Rn0 (f.bind fun q => tlK (i32 n) (i32 p) (i32 V) q.1 q.2) n σ p V T r
theorem In_bad {σ τ : CS} {n p V T e : Nat} {f : Option (Int32 × CS)} (he : e ≤ 40) (h : f = some (0, τ)) (h8 : τ.1 43 8 = i32 e) (hc : chK AK σ τ) : InO L ents tx f n σ p V T (.error e) := by
  refine ⟨he, τ, ?_, h8, hc⟩
  rw [h, Option.bind_some]
  exact tlK_0 _ _ _ _
/-- the next byte -/
theorem k_peek {σ : CS} {T p : Nat} (hs : RK L ents tx σ T) (h7 : σ.1 43 7 = i32 p) (hl : tx.length ≤ 32) (hp : p < tx.length) : f_Reader_peek σ = some (i32 (byt tx p), σ) := by
  obtain ⟨a1, a2, a3, a4, a5⟩ := hs
  have o1 : okc σ 1 12 = true := okS σ 1 (by decide) rfl
  have l1 : lnC σ 1 = 32 := by unfold lnC; rw [if_pos (by decide)]; rfl
  unfold f_Reader_peek B_Reader_peek_43
  rw [h7, if_neg (show ¬ (i32 p < 0) from by rw [show (0 : Int32) = i32 0 from rfl, z_lt (by omega) (by omega)]; omega), a2, if_neg (show ¬ (i32 tx.length ≤ i32 p) from by rw [z_le (by omega) (by omega)]; omega), a3, Option.bind_some, if_pos o1, l1, if_neg (show ¬ (Int32.ofNat 32 ≤ i32 p) from by rw [show Int32.ofNat 32 = i32 32 from rfl, z_le (by omega) (by omega)]; omega), Option.bind_some, if_pos o1, l1, if_pos (show ix (i32 p) 32 = true from c_ix (by omega) (by omega)), z_nn (by omega), a4 p hp]
theorem k_peek0 {σ : CS} {T p : Nat} (hs : RK L ents tx σ T) (h7 : σ.1 43 7 = i32 p) (hl : tx.length ≤ 32) (hp : tx.length ≤ p) (hp2 : p < 1000) : f_Reader_peek σ = some (-1, σ) := by
  obtain ⟨a1, a2, a3, a4, a5⟩ := hs
  unfold f_Reader_peek B_Reader_peek_42 B_Reader_peek_43
  rw [h7, if_neg (show ¬ (i32 p < 0) from by rw [show (0 : Int32) = i32 0 from rfl, z_lt (by omega) (by omega)]; omega), a2, if_pos (show i32 tx.length ≤ i32 p from by rw [z_le (by omega) (by omega)]; exact hp)]
theorem k_scope {σ : CS} {n : Nat} (hn : n ≤ 10) : f_Reader_scope (i32 n) σ = some (σ.1 45 n, σ) := by
  unfold f_Reader_scope B_Reader_scope_20
  rw [if_neg (show ¬ (i32 n < 0) from by rw [show (0 : Int32) = i32 0 from rfl, z_lt (by omega) (by omega)]; omega), if_neg (show ¬ ((10 : Int32) < i32 n) from by rw [show (10 : Int32) = i32 10 from rfl, z_lt (by omega) (by omega)]; omega), if_pos (show ix (i32 n) (lS 45) = true from c_ix (show n < lS 45 by show n < 11; omega) (by omega)), z_nn (by omega)]
/-- settling behind a part -/
theorem Set_In {vt : List Rq} {σ σ1 ω : CS} {V T T1 p q n : Nat} {a v r : Int32} {Ty t : Tr} {f : Option (Int32 × CS)} (hf : FK σ σ1 V T n) (hT : T ≤ T1) (h7 : σ1.1 43 7 = i32 q) (hp : p ≤ 40) (hTq : T1 + 100 ≤ T + 100 * (q - p)) (e : f = some (1, haS a v σ1)) (h1 : tlK (i32 n) (i32 p) (i32 V) 1 (haS a v σ1) = some (r, ω)) (h : SetO σ1 ω V T1 p n Ty t r) : InO L ents tx f n σ p V T (stl Ty t n p q) := by
  obtain ⟨a1, a2, a3, a4, a5, T', a8, a9, a10, a11⟩ := h
  have g := FK_tr hf (FK_AS (n := n) a1 a2 a3) (Nat.le_refl _) hT (Nat.le_refl _)
  have eb : (f.bind fun q => tlK (i32 n) (i32 p) (i32 V) q.1 q.2) = some (r, ω) := by rw [e, Option.bind_some]; exact h1
  unfold InO
  rw [eb]
  rcases a11 with ⟨x1, x2, g', h', x3, x4, x5, x6, x7, x8⟩ | ⟨x1, x2, x3⟩
  · rw [show stl Ty t n p q = .ok (Ty, t, q) from cif_pos ⟨x1, x2⟩ _ _]
    exact ⟨g', h', ω, T', by rw [x3], a5, a8, by omega, by show T' ≤ T + 100 * (q - p); omega, by rw [a4]; exact h7, g, x5, x6, x4, x7, x8⟩
  · rw [show stl Ty t n p q = .error p from cif_neg x1 _ _]
    exact ⟨hp, ω, by rw [x2], x3, g.2.1⟩
theorem rK_P (w : Tr) : ∀ (σ τ : CS) (V T V' T' v : Nat), kpK σ τ V T → fxK τ = fxK σ → V ≤ V' → T ≤ T' → rpK σ V T false w v → rpK τ V' T' false w v := fun σ τ V T V' T' v hk hf hV hT hr => rK_kp hk hf hV hT _ _ _ hr
/-- a name, a constant, or what can't stand -/
theorem k_readName (hw : WL L ents tx) {vt : List Rq} {σ : CS} {p V T : Nat} (hv : vtOK L vt) (hs : RK L ents tx σ T) (hd : DK vt σ V T p) (hp : p ≤ tx.length) (h1 : ∀ c, c = 35 ∨ c = 58 ∨ c = 46 ∨ c = 60 ∨ c = 62 → byt tx p ≠ c) : InO L ents tx (f_Reader_readName (i32 vt.length) σ) vt.length σ p V T (if 48 ≤ byt tx p ∧ byt tx p - 48 < vt.length then (let rq := vt.getD (byt tx p - 48) (.leaf 0, []); stl (nft rq.1 rq.2 vt.length) (et (shp rq.1) (nm (byt tx p - 48)) vt.length) vt.length p (p + 1)) else if 97 ≤ byt tx p ∧ byt tx p - 97 < L.2.length then (let T := L.2.getD (byt tx p - 97) (.leaf 0); stl (nft T [] vt.length) (et (shp T) (.leaf (byt tx p)) vt.length) vt.length p (p + 1)) else .error p) := by
  have hl := hw.2.2.2.1
  have hl3 := (W34 hw).1
  have hL := (W34 hw).2
  have hv10 := hv.1
  have hd' := hd
  obtain ⟨d1, d2, d3, d4, d5, d6, d7, d8⟩ := hd
  have e71 : ∀ (c : Int32), (f_Signs_isConstant c σ = some (0, σ)) → B_Reader_readName_55 c σ = some (0, sI σ 43 8 (i32 p)) := fun c hc => by
    unfold B_Reader_readName_55
    rw [hc, Option.bind_some]
    dsimp only
    rw [if_pos rfl, d6, fail_go]
  have bad : f_Reader_readName (i32 vt.length) σ = some (0, sI σ 43 8 (i32 p)) → InO L ents tx (f_Reader_readName (i32 vt.length) σ) vt.length σ p V T (.error p) := fun h => In_bad (by omega) h (sI_at _ _ _ _) (FK_43 σ 8 (i32 p) V T vt.length (by omega)).2.1
  by_cases hpl : p < tx.length
  · have h256 := byt_256 hw hpl
    have hpk := k_peek hs d6 hl hpl
    generalize byt tx p = c at h1 h256 hpk
    have h437 : (sI σ 43 7 (i32 (p + 1))).1 43 7 = i32 (p + 1) := sI_at _ _ _ _
    have f7 := FK_43 σ 7 (i32 (p + 1)) V T vt.length (by omega)
    have hs7 := RK_go hs f7.1 f7.2.1 (Nat.le_refl T)
    have hd7 := DK_go (q := p + 1) hd' f7 (by rw [sI_ne _ _ (Or.inl (by decide))]; exact d1) (by rw [sI_ne _ _ (Or.inl (by decide))]; exact d2) h437 (Nat.le_refl _) (by omega) (Nat.le_refl _) (by omega)
    have hR7 := RdP_of hv hs7 hd7 (by omega)
    by_cases hc : 48 ≤ c ∧ c - 48 < vt.length
    · rw [if_pos hc]
      have hlt := hc.2
      have hrq : vt[c - 48]? = some (vt.getD (c - 48) (.leaf 0, [])) := by
        simp [List.getElem?_eq_getElem hlt]
      generalize vt.getD (c - 48) (.leaf 0, []) = rq at hrq
      obtain ⟨Γ, v1, v2, v3, v4, v5⟩ := hv.2 _ _ hrq
      obtain ⟨q, t1, t2⟩ := hd7.2.2.2.2.2.2.2 _ _ hrq
      obtain ⟨e, s1, s2⟩ := hd7.2.2.2.2.2.2.1 vt.length (Nat.le_refl _)
      obtain ⟨z, x1, x2⟩ := k_varIn (n := c - 48) hd7.2.1 (by omega) s2 (by rw [idr_len]; exact hlt)
      rw [lk_idr hlt] at x2
      have hctx : (ctx vt)[c - 48]? = some (shp rq.1) := by
        unfold ctx
        rw [List.getElem?_map, hrq]
        rfl
      have hen : enV L (ctx vt) rq.2 Γ := by
        have := enV_wk ((ctx vt).drop (c - 48)) v2
        rw [List.take_append_drop] at this
        exact this
      have hWr := Wr_long hL (shp rq.1) (nm (c - 48)) (ctx vt) vt.length (WT_wfs _ _ v1) (HT_nmi hctx (by omega)) (ctx_len vt)
      obtain ⟨r, τ, e1, e2⟩ := k_settle hw.1 (p := p) v1 hen (ctx_len vt) v3 v4 v5 hWr (rK_P _) d3 (Nat.le_refl _) hR7 (by omega) (by omega) t2 x2
      refine Set_In (vt := vt) f7 (Nat.le_refl _) h437 (by omega) (by omega) ?_ e1 e2
      unfold f_Reader_readName
      rw [hpk, Option.bind_some]
      dsimp only
      rw [z_sub48 hc.1, if_neg (show ¬ (i32 (c - 48) < 0) from by rw [show (0 : Int32) = i32 0 from rfl, z_lt (by omega) (by omega)]; omega), if_neg (show ¬ (i32 vt.length ≤ i32 (c - 48)) from by rw [z_le (by omega) (by omega)]; omega), d6, show i32 p + 1 = i32 (p + 1) from by rw [z1, z_add], k_typeOfVar (by omega), t1, Option.bind_some]
      dsimp only
      rw [k_scope hv10, Option.bind_some]
      dsimp only
      rw [s1, x1, Option.bind_some]
      dsimp only
      rw [has_go]
    rw [if_neg hc]
    have hgo : f_Reader_readName (i32 vt.length) σ = B_Reader_readName_55 (i32 c) σ := by
      unfold f_Reader_readName
      rw [hpk, Option.bind_some]
      dsimp only
      by_cases h48 : c < 48
      · rw [if_pos (show i32 c - 48 < 0 from by rw [z48, show (0 : Int32) = i32 0 from rfl, z_neg (by omega) (by omega)]; trivial)]
      · rw [z_sub48 (by omega), if_neg (show ¬ (i32 (c - 48) < 0) from by rw [show (0 : Int32) = i32 0 from rfl, z_lt (by omega) (by omega)]; omega), if_pos (show i32 vt.length ≤ i32 (c - 48) from by rw [z_le (by omega) (by omega)]; omega)]
    by_cases hc2 : 97 ≤ c ∧ c - 97 < L.2.length
    · rw [if_pos hc2]
      have hA : L.2[c - 97]? = some (L.2.getD (c - 97) (.leaf 0)) := by
        simp [List.getElem?_eq_getElem hc2.2]
      generalize L.2.getD (c - 97) (.leaf 0) = A at hA
      obtain ⟨w1, w2⟩ := hw.1.2.2.2 _ _ hA
      obtain ⟨q, b1, b2, b3, b4⟩ := k_constType hL hs7.1 hc2.1 hA
      have hV7 := hd7.2.1
      have cM := mkn_ch (A := AV) (sI σ 43 7 (i32 (p + 1))) V 10 (i32 q) 0 (fun _ h => h)
      have kM := mkn_kp (sI σ 43 7 (i32 (p + 1))) V 10 (i32 q) 0 T
      have cM2 := mkn_ch (A := AV) (mkn (sI σ 43 7 (i32 (p + 1))) V 10 (i32 q) 0) (V + 1) 2 (i32 c) 0 (fun _ h => h)
      have kM2 := mkn_kp (mkn (sI σ 43 7 (i32 (p + 1))) V 10 (i32 q) 0) (V + 1) 2 (i32 c) 0 T
      have hty : tyK (mkn (sI σ 43 7 (i32 (p + 1))) V 10 (i32 q) 0) (V + 1) T A [] V := ⟨by omega, by omega, mkn_39 _ _ _ _ _, q, 0, mkn_40 _ _ _ _ _, mkn_41 _ _ _ _ _, kK_fm kM b2 b3, b3, by rw [cK_fx cM n36V]; exact b4, rfl⟩
      have hty2 := tyK_kp kM2 (cK_fx cM2 n36V) (show V + 1 ≤ V + 1 + 1 by omega) (Nat.le_refl T) hty
      have hrc : rpK (mkn (mkn (sI σ 43 7 (i32 (p + 1))) V 10 (i32 q) 0) (V + 1) 2 (i32 c) 0) (V + 1 + 1) T false (.leaf c) (V + 1) := ⟨by omega, by omega, Or.inr (Or.inl ⟨hc2.1, by omega, mkn_39 _ _ _ _ _, mkn_40 _ _ _ _ _⟩)⟩
      have fM : FK σ (mkn (mkn (sI σ 43 7 (i32 (p + 1))) V 10 (i32 q) 0) (V + 1) 2 (i32 c) 0) V T vt.length := FK_tr f7 (FK_AV (kK_tr kM kM2 (by omega) (Nat.le_refl _)) (cK_tr cM cM2)) (Nat.le_refl _) (Nat.le_refl _) (Nat.le_refl _)
      have c12 := cK_tr cM cM2
      have hRM : RdP L (ctx vt) (mkn (mkn (sI σ 43 7 (i32 (p + 1))) V 10 (i32 q) 0) (V + 1) 2 (i32 c) 0) (V + 1 + 1) T := RdP_go hR7 (kK_tr kM kM2 (by omega) (Nat.le_refl _)) (cVK c12) (fun k _ => by rw [c12.2.1 42 (by decide)]) (by rw [c12.2.1 34 (by decide)]; exact hd7.1) (Nat.le_refl _) (mkn_V _ _ _ _ _) (by omega) (by omega)
      have hHT : HT L (.leaf c) (ctx vt) false (shp A) := by
        simp only [HT]
        refine Or.inr ⟨fun h => by simp at h, ?_⟩
        unfold hdS
        rw [if_neg (by omega), if_pos hc2.1, hA]
        rfl
      have hWr := Wr_long hL (shp A) (.leaf c) (ctx vt) vt.length (WT_wfs _ _ w1) hHT (ctx_len vt)
      obtain ⟨r, τ, e1, e2⟩ := k_settle hw.1 (p := p) (ρ := []) w1 (enV_nil L (ctx vt)) (ctx_len vt) w2.2 (Nat.zero_le _) w2.1 hWr (rK_P _) d3 (show V ≤ V + 1 + 1 by omega) hRM (by omega) (by omega) hty2 hrc
      refine Set_In (vt := vt) fM (Nat.le_refl _) (by rw [c12.2.1 43 (by decide)]; exact h437) (by omega) (by omega) ?_ e1 e2
      rw [hgo]
      unfold B_Reader_readName_55
      rw [k_isConst (by omega) hL hs.1.2.1, Option.bind_some, if_pos (show 97 ≤ c ∧ c - 97 < L.2.length from hc2)]
      dsimp only
      rw [if_neg (show ¬ (i32 1 = 0) from by decide), d6, show i32 p + 1 = i32 (p + 1) from by rw [z1, z_add]]
      unfold f_Values_typeOfConstant f_Values_typeAt f_Values_constantOf
      rw [b1, Option.bind_some]
      dsimp only
      rw [obid, obid, k_make _ _ _ hV7 d3 (by omega), Option.bind_some]
      dsimp only
      rw [obid, k_make _ _ _ (mkn_V _ _ _ _ _) (by omega) (by omega), Option.bind_some]
      dsimp only
      rw [has_go]
    · rw [if_neg hc2]
      refine bad ?_
      rw [hgo]
      refine e71 _ ?_
      rw [k_isConst (by omega) hL hs.1.2.1, if_neg (show ¬ (97 ≤ c ∧ c - 97 < L.2.length) from hc2)]
      rfl
  · have h300 := byt_end (tx := tx) (p := p) (by omega)
    rw [h300, if_neg (by omega), if_neg (by omega)]
    refine bad ?_
    unfold f_Reader_readName
    rw [k_peek0 hs d6 hl (by omega) (by omega), Option.bind_some]
    dsimp only
    rw [if_pos (show (-1 : Int32) - 48 < 0 from by decide)]
    exact e71 _ rfl
end KREAD1

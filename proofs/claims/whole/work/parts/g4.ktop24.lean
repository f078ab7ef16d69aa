section KTOP24
variable {L : Lw} {tx : List Nat}
/-- what an item leaves, its semicolon with it -/
def ItK (tx : List Nat) (σ : CS) (f : Option (Int32 × CS)) (r : Except Nat (Lw × Nat)) : Prop := match r with
  | .ok y => (byt tx y.2 = 59 → ∃ τ V T, f = some (1, τ) ∧ BK y.1 [] tx [] τ (y.2 + 1) V T ∧ RF σ τ ∧ KV τ) ∧ (byt tx y.2 ≠ 59 → y.2 ≤ 40 ∧ ∃ τ, f = some (0, τ) ∧ τ.1 43 8 = i32 y.2 ∧ RF σ τ ∧ KV τ)
  | .error e => e ≤ 40 ∧ ∃ τ, f = some (0, τ) ∧ τ.1 43 8 = i32 e ∧ RF σ τ ∧ KV τ
theorem ItK_pre {σ τ : CS} {f : Option (Int32 × CS)} {r : Except Nat (Lw × Nat)} (h : RF σ τ) (g : ItK tx τ f r) : ItK tx σ f r := by
  cases r with
  | error e =>
    obtain ⟨he, υ, a, b, c, d⟩ := g
    exact ⟨he, υ, a, b, RF_tr h c, d⟩
  | ok y =>
    refine ⟨fun e => ?_, fun e => ?_⟩
    · obtain ⟨υ, V, T, a, b, c, d⟩ := g.1 e
      exact ⟨υ, V, T, a, b, RF_tr h c, d⟩
    · obtain ⟨he, υ, a, b, c, d⟩ := g.2 e
      exact ⟨he, υ, a, b, RF_tr h c, d⟩
theorem BK_nx {σ : CS} {q V T : Nat} (h : BK L [] tx [] σ q V T) (hq : q < tx.length) : BK L [] tx [] (sI σ 43 7 (σ.1 43 7 + 1)) (q + 1) V T ∧ (sI σ 43 7 (σ.1 43 7 + 1)).1 43 7 = i32 (q + 1) := by
  have e : σ.1 43 7 + 1 = i32 (q + 1) := by rw [h.2.2.1.2.2.2.2.2.1, z1, z_add]
  rw [e]
  exact ⟨BK_next h hq, sI_at _ _ _ _⟩
/-- an item's semicolon, a family -/
theorem it_fam {σ : CS} {q V T : Nat} {o : Option Tr} {x : Int32} (hl : tx.length ≤ 32) (hbt : ∀ x ∈ tx, x < 256) (hL : lwOK L) (hb : BK L [] tx [] σ q V T) (hT : T ≤ 3600) (hM : lwOK (L.1 ++ [o], L.2)) (h3 : L.1.length < 3) (hx0 : o = none → x = -1) (hx1 : ∀ I, o = some I → ∃ g, x = i32 g ∧ fm (σ.1 35) I g ∧ g + ln I ≤ T) (hv : KV σ) : ItK tx σ (B_Reader_readItem_160 1 x σ) (.ok ((L.1 ++ [o], L.2), q)) := by
  have hq := hb.2.2.2
  obtain ⟨c, p1, p2⟩ := k_pk hb.2.1 hb.2.2.1.2.2.2.2.2.1 hl hbt (by omega)
  unfold B_Reader_readItem_160 B_Reader_readItem_213
  rw [p1, Option.bind_some]
  dsimp only
  refine ⟨fun h59 => ?_, fun h59 => ?_⟩
  · have h59 : byt tx q = 59 := h59
    have hq2 := byt_lt (tx := tx) (p := q) (by omega)
    obtain ⟨b1, _⟩ := BK_nx hb hq2
    have f1 : RF σ (sI σ 43 7 (σ.1 43 7 + 1)) := RF_43 _ _ _
    have v1 := KV_43 hv 7 (σ.1 43 7 + 1)
    have o35 : (sI σ 43 7 (σ.1 43 7 + 1)).1 35 = σ.1 35 := sI_row _ _ (by decide)
    rw [if_pos (show c = 59 from (p2 59 (by omega)).mpr h59), if_neg (show ¬ ((1 : Int32) = 0) from by decide)]
    generalize sI σ 43 7 (σ.1 43 7 + 1) = σ1 at b1 f1 v1 o35
    obtain ⟨τ, t1, t2, t3, t4⟩ := k_addFam (x := x) hL b1 hT hM h3 hx0 (fun I hI => by rw [o35]; exact hx1 I hI)
    rw [t1, Option.bind_some]
    exact ⟨τ, V, T, rfl, t2, RF_tr f1 t3, t4 v1⟩
  · have h59 : byt tx q ≠ 59 := h59
    rw [if_neg (show ¬ (c = 59) from fun e => h59 ((p2 59 (by omega)).mp e))]
    rw [fail_go]
    exact ⟨by show q ≤ 40; omega, _, rfl, by rw [sI_at]; exact hb.2.2.1.2.2.2.2.2.1, RF_43 _ _ _, KV_43 hv _ _⟩
/-- an item's semicolon, a constant -/
theorem it_con {σ : CS} {q V T g : Nat} {A : Tr} (hl : tx.length ≤ 32) (hbt : ∀ x ∈ tx, x < 256) (hL : lwOK L) (hb : BK L [] tx [] σ q V T) (hT : T ≤ 3600) (hM : lwOK (L.1, L.2 ++ [A])) (h4 : L.2.length < 4) (hf : fm (σ.1 35) A g) (hg : g + ln A ≤ T) (hv : KV σ) : ItK tx σ (B_Reader_readItem_160 0 (i32 g) σ) (.ok ((L.1, L.2 ++ [A]), q)) := by
  have hq := hb.2.2.2
  obtain ⟨c, p1, p2⟩ := k_pk hb.2.1 hb.2.2.1.2.2.2.2.2.1 hl hbt (by omega)
  unfold B_Reader_readItem_160 B_Reader_readItem_213
  rw [p1, Option.bind_some]
  dsimp only
  refine ⟨fun h59 => ?_, fun h59 => ?_⟩
  · have h59 : byt tx q = 59 := h59
    have hq2 := byt_lt (tx := tx) (p := q) (by omega)
    obtain ⟨b1, _⟩ := BK_nx hb hq2
    have f1 : RF σ (sI σ 43 7 (σ.1 43 7 + 1)) := RF_43 _ _ _
    have v1 := KV_43 hv 7 (σ.1 43 7 + 1)
    have o35 : (sI σ 43 7 (σ.1 43 7 + 1)).1 35 = σ.1 35 := sI_row _ _ (by decide)
    rw [if_pos (show c = 59 from (p2 59 (by omega)).mpr h59), if_pos rfl]
    generalize sI σ 43 7 (σ.1 43 7 + 1) = σ1 at b1 f1 v1 o35
    obtain ⟨τ, t1, t2, t3, t4⟩ := k_addCon (g := g) hL b1 hT hM h4 (by rw [o35]; exact hf) hg
    rw [t1, Option.bind_some]
    exact ⟨τ, V, T, rfl, t2, RF_tr f1 t3, t4 v1⟩
  · have h59 : byt tx q ≠ 59 := h59
    rw [if_neg (show ¬ (c = 59) from fun e => h59 ((p2 59 (by omega)).mp e))]
    rw [fail_go]
    exact ⟨by show q ≤ 40; omega, _, rfl, by rw [sI_at]; exact hb.2.2.1.2.2.2.2.2.1, RF_43 _ _ _, KV_43 hv _ _⟩
/-- a type of an item was read -/
theorem it_type (hw : WL L [] tx) {σ : CS} {p V T : Nat} (hb : BK L [] tx [] σ p V T) (hv : KV σ) : match (RD L [] tx 70).1 [] p with
  | .error e => e ≤ 40 ∧ ∃ τ, f_Reader_readType 140 0 σ = some (-1, τ) ∧ τ.1 43 8 = i32 e ∧ RF σ τ ∧ KV τ
  | .ok a => ∃ g τ V' T', f_Reader_readType 140 0 σ = some (i32 g, τ) ∧ BK L [] tx [] τ a.2 V' T' ∧ T' ≤ 3600 ∧ RF σ τ ∧ KV τ ∧ fm (τ.1 35) a.1 g ∧ g + ln a.1 ≤ T' ∧ pr (fxK τ) a.1 := by
  have hl := hw.2.2.2.1
  have oT := (okRD (tx := tx) hw.1 hw.2.1 hw.2.2.1 70).1
  have K := KRD (tx := tx) hw 70
  have hp := hb.2.2.2
  have hV1 := hb.2.2.1.2.2.2.1
  have hT1 := hb.2.2.1.2.2.2.2.1
  have run := K.1 140 (by omega) [] p V T σ hb (by omega)
  rw [rT0]
  cases h1 : (RD L [] tx 70).1 [] p with
  | error e =>
    rw [h1] at run
    obtain ⟨he, τ, e1, e2, e3⟩ := run
    exact ⟨he, τ, e1, e2, RF_ch e3, KV_ch hv e3⟩
  | ok a =>
    obtain ⟨y1, y2, y3, y4⟩ := oT [] p a (vtOK_nil L) h1
    rw [h1] at run
    obtain ⟨g, τ, V', T', e1, e2, e3, e4, e5, e6, e7, e8, e9, e10, e11⟩ := run
    have hb1 := BK_go0 hw hb e9 e5 e2 e3 (q := a.2) (by omega) e6 (by omega) e8 y4
    exact ⟨g, τ, V', T', e1, hb1, by omega, RF_ch e9.2.1, KV_ch hv e9.2.1, e10, e11, WT_pr ⟨hw.1.1, hw.1.2.1⟩ (lwP_fx hw.1.1 hb1.2.1.1 (by omega)) _ _ y1⟩
theorem it_bad {σ : CS} {p V T : Nat} (hb : BK L [] tx [] σ p V T) (hp : p ≤ 32) (hv : KV σ) : ItK tx σ ((f_Reader_fail (σ.1 43 7) σ).bind fun q1 => if bzb q1.1 then some (q1.1, q1.2) else none) (.error p) := by
  rw [fail_go]
  exact ⟨by omega, _, rfl, by rw [sI_at]; exact hb.2.2.1.2.2.2.2.2.1, RF_43 _ _ _, KV_43 hv _ _⟩
/-- a family with an index, its type read -/
theorem it_127 (hw : WL L [] tx) (h3 : L.1.length < 3) {σ : CS} {p V T : Nat} (hb : BK L [] tx [] σ (p + 1) V T) (hv : KV σ) : ItK tx σ ((f_Reader_readType 140 0 σ).bind fun q1 => B_Reader_readItem_118 1 (i32 (p + 1)) 1 q1.1 q1.2) (((RD L [] tx 70).1 [] (p + 1)).bind fun a => if 80 ∈ enc a.1 then .error (p + 1) else .ok ((L.1 ++ [some a.1], L.2), a.2)) := by
  have hl := hw.2.2.2.1
  have hL := hw.1
  have oT := (okRD (tx := tx) hw.1 hw.2.1 hw.2.2.1 70).1
  have hp := hb.2.2.2
  have t := it_type hw hb hv
  cases h1 : (RD L [] tx 70).1 [] (p + 1) with
  | error e =>
    rw [h1] at t
    obtain ⟨he, τ, e1, e2, e3, e4⟩ := t
    unfold B_Reader_readItem_118
    rw [e1, Option.bind_some]
    dsimp only
    rw [if_neg (show ¬ ((1 : Int32) = 0) from by decide), if_pos rfl]
    exact ⟨he, τ, rfl, e2, e3, e4⟩
  | ok a =>
    obtain ⟨a1, a2, a3, a4⟩ := oT [] _ a (vtOK_nil L) h1
    rw [h1] at t
    obtain ⟨g, τ, V', T', e1, e2, e3, e4, e5, e6, e7, e8⟩ := t
    have hT := e2.2.2.1.1
    unfold B_Reader_readItem_118 B_Reader_readItem_133
    rw [e1, Option.bind_some]
    dsimp only
    rw [if_neg (show ¬ ((1 : Int32) = 0) from by decide), if_neg (i32_1 (by omega)), if_neg (show ¬ ((1 : Int32) = 0) from by decide), if_neg (show ¬ ((1 : Int32) = 0) from by decide), k_isData hT e3 e8 e6 e7, Option.bind_some]
    dsimp only
    show ItK tx σ _ (if 80 ∈ enc a.1 then .error (p + 1) else .ok ((L.1 ++ [some a.1], L.2), a.2))
    by_cases h80 : 80 ∈ enc a.1
    · rw [if_pos h80, if_pos h80, if_pos (show i32 0 = 0 from rfl)]
      rw [fail_go]
      exact ⟨by omega, _, rfl, sI_at _ _ _ _, RF_tr e4 (RF_43 _ _ _), KV_43 e5 _ _⟩
    · rw [if_neg h80, if_neg h80, if_neg (show ¬ (i32 1 = 0) from by decide)]
      exact ItK_pre e4 (it_fam hl hw.2.2.2.2 hL e2 e3 (lw_fam hL h3 (fun I hI => by injection hI with hI; subst hI; exact ⟨a1, data_of _ _ a1 h80, a2⟩)).1 h3 (fun h => by cases h) (fun I hI => by injection hI with hI; subst hI; exact ⟨g, rfl, e6, e7⟩) e5)
/-- a constant, its type read -/
theorem it_127c (hw : WL L [] tx) (h4 : L.2.length < 4) {σ : CS} {p V T : Nat} (hb : BK L [] tx [] σ (p + 1) V T) (hv : KV σ) : ItK tx σ ((f_Reader_readType 140 0 σ).bind fun q1 => B_Reader_readItem_118 0 (i32 (p + 1)) 1 q1.1 q1.2) (((RD L [] tx 70).1 [] (p + 1)).bind fun a => .ok ((L.1, L.2 ++ [a.1]), a.2)) := by
  have hl := hw.2.2.2.1
  have hL := hw.1
  have oT := (okRD (tx := tx) hw.1 hw.2.1 hw.2.2.1 70).1
  have hp := hb.2.2.2
  have t := it_type hw hb hv
  cases h1 : (RD L [] tx 70).1 [] (p + 1) with
  | error e =>
    rw [h1] at t
    obtain ⟨he, τ, e1, e2, e3, e4⟩ := t
    unfold B_Reader_readItem_118
    rw [e1, Option.bind_some]
    dsimp only
    rw [if_neg (show ¬ ((1 : Int32) = 0) from by decide), if_pos rfl]
    exact ⟨he, τ, rfl, e2, e3, e4⟩
  | ok a =>
    obtain ⟨a1, a2, a3, a4⟩ := oT [] _ a (vtOK_nil L) h1
    rw [h1] at t
    obtain ⟨g, τ, V', T', e1, e2, e3, e4, e5, e6, e7, e8⟩ := t
    unfold B_Reader_readItem_118 B_Reader_readItem_133
    rw [e1, Option.bind_some]
    dsimp only
    rw [if_neg (show ¬ ((1 : Int32) = 0) from by decide), if_neg (i32_1 (by omega)), if_pos rfl]
    exact ItK_pre e4 (it_con hl hw.2.2.2.2 hL e2 e3 (lw_con hL h4 ⟨a1, a2⟩).1 h4 e6 e7 e5)
/-- an item -/
theorem k_readItem (hw : WL L [] tx) {σ : CS} {p V T : Nat} (hb : BK L [] tx [] σ p V T) (hp : p < tx.length) (hv : KV σ) : ItK tx σ (f_Reader_readItem σ) (spD tx p L) := by
  have hl := hw.2.2.2.1
  have hbt := hw.2.2.2.2
  have hL := hw.1
  have l1 := hL.1
  have l2 := hL.2.1
  obtain ⟨c, p1, p2⟩ := k_pk hb.2.1 hb.2.2.1.2.2.2.2.2.1 hl hbt (by omega)
  have l3 := hb.2.1.1.1
  have l5 := hb.2.1.1.2.1
  obtain ⟨b1, e7⟩ := BK_nx hb hp
  have f1 : RF σ (sI σ 43 7 (σ.1 43 7 + 1)) := RF_43 _ _ _
  have v1 := KV_43 hv 7 (σ.1 43 7 + 1)
  unfold f_Reader_readItem B_Reader_readItem_24 B_Reader_readItem_25 B_Reader_readItem_50 B_Reader_readItem_51
  rw [p1, Option.bind_some]
  dsimp only
  rw [p1, Option.bind_some]
  dsimp only
  rw [l3, l5]
  unfold spD
  by_cases h102 : byt tx p = 102
  · have ec : c = 102 := (p2 102 (by omega)).mpr h102
    have ec2 : ¬ (c = 107) := fun e => by have := (p2 107 (by omega)).mp e; omega
    rw [if_pos h102, if_pos ec]
    by_cases h3 : L.1.length = 3
    · rw [if_pos h3, if_pos (show (3 : Int32) ≤ i32 L.1.length by rw [h3]; decide), if_neg ec2, if_pos rfl, if_pos rfl]
      exact it_bad hb (by omega) hv
    · rw [if_neg h3, if_neg (show ¬ ((3 : Int32) ≤ i32 L.1.length) by rw [z3, z_le (by omega) (by omega)]; omega), Option.bind_some]
      dsimp only
      rw [if_neg ec2, if_neg (show ¬ ((1 : Int32) = 0) from by decide)]
      unfold B_Reader_readItem_69 B_Reader_readItem_97 B_Reader_readItem_102
      rw [if_pos rfl, e7]
      generalize sI σ 43 7 (σ.1 43 7 + 1) = σ1 at b1 e7 f1 v1
      obtain ⟨d, r1, r2⟩ := k_pk b1.2.1 b1.2.2.1.2.2.2.2.2.1 hl hbt (by omega)
      rw [r1, Option.bind_some]
      dsimp only
      have hT := b1.2.2.1.2.2.2.2.1
      by_cases h59 : byt tx (p + 1) = 59
      · rw [if_pos h59, if_pos (show d = 59 from (r2 59 (by omega)).mpr h59), if_pos rfl]
        unfold B_Reader_readItem_118 B_Reader_readItem_133
        rw [if_pos rfl, if_neg (show ¬ ((1 : Int32) = 0) from by decide), if_pos rfl]
        exact ItK_pre f1 (it_fam hl hbt hL b1 (by omega) (lw_fam hL (by omega) (fun I hI => by cases hI)).1 (by omega) (fun _ => rfl) (fun I hI => by cases hI) v1)
      · rw [if_neg h59, if_neg (show ¬ (d = 59) from fun e => h59 ((r2 59 (by omega)).mp e)), if_neg (show ¬ ((1 : Int32) = 0) from by decide)]
        exact ItK_pre f1 (it_127 hw (by omega) b1 v1)
  · have ec : ¬ (c = 102) := fun e => h102 ((p2 102 (by omega)).mp e)
    rw [if_neg h102, if_neg ec]
    by_cases h107 : byt tx p = 107
    · rw [if_pos h107, if_pos (show c = 107 from (p2 107 (by omega)).mpr h107)]
      by_cases h4 : L.2.length = 4
      · rw [if_pos h4, if_pos (show (4 : Int32) ≤ i32 L.2.length by rw [h4]; decide), if_pos rfl, if_pos rfl]
        exact it_bad hb (by omega) hv
      · rw [if_neg h4, if_neg (show ¬ ((4 : Int32) ≤ i32 L.2.length) by rw [z4, z_le (by omega) (by omega)]; omega), if_pos rfl, if_neg (show ¬ ((1 : Int32) = 0) from by decide)]
        unfold B_Reader_readItem_69 B_Reader_readItem_97 B_Reader_readItem_102
        rw [if_neg (show ¬ ((1 : Int32) = 0) from by decide), if_neg (show ¬ ((1 : Int32) = 0) from by decide), e7]
        exact ItK_pre f1 (it_127c hw (by omega) b1 v1)
    · rw [if_neg h107, if_neg (show ¬ (c = 107) from fun e => h107 ((p2 107 (by omega)).mp e)), if_pos rfl, if_pos rfl]
      exact it_bad hb (by omega) hv
end KTOP24

section KREAD0
theorem k_equal_l {σ : CS} {T : Nat} {l r : List Nat} {p q n : Nat} (hT : σ.1 34 1 = i32 T) (hT2 : T ≤ 3600) (hl : l.length = n) (hr : r.length = n) (hp : ∀ k, k < n → σ.1 35 (p + k) = i32 (l.getD k 0)) (hq : ∀ k, k < n → σ.1 35 (q + k) = i32 (r.getD k 0)) (h1 : p + n ≤ T) (h2 : q + n ≤ T) (h3 : ∀ x ∈ l, x < 128) (h4 : ∀ x ∈ r, x < 128) : ∀ (d F k : Nat), k + d = n → d < F → L_Signs_equal_24 F (i32 p) (i32 q) (i32 (p + n)) (i32 k) σ = some (if l.drop k = r.drop k then i32 1 else i32 0, σ) := by
  intro d
  induction d with
  | zero =>
    intro F k hk hF
    obtain ⟨G, rfl⟩ : ∃ G, F = G + 1 := ⟨F - 1, by omega⟩
    rw [L_Signs_equal_24, z_add, if_pos (show i32 (p + n) ≤ i32 (p + k) from by rw [z_le (by omega) (by omega)]; omega), List.drop_eq_nil_of_le (by omega), List.drop_eq_nil_of_le (by omega), if_pos rfl]
    rfl
  | succ d ih =>
    intro F k hk hF
    obtain ⟨G, rfl⟩ : ∃ G, F = G + 1 := ⟨F - 1, by omega⟩
    have b1 := gD_lt h3 k
    have b2 := gD_lt h4 k
    rw [L_Signs_equal_24, z_add, z_add, if_neg (show ¬ (i32 (p + n) ≤ i32 (p + k)) from by rw [z_le (by omega) (by omega)]; omega), k_at hT (by omega) hT2, Option.bind_some]
    dsimp only
    rw [k_at hT (by omega) hT2, Option.bind_some]
    dsimp only
    rw [hp k (by omega), hq k (by omega), drop_gD (show k < l.length by omega), drop_gD (show k < r.length by omega)]
    by_cases he : l.getD k 0 = r.getD k 0
    · rw [he, if_pos rfl, show i32 k + 1 = i32 (k + 1) from by rw [z1, z_add], ih G (k + 1) (by omega) (by omega)]
      by_cases h : l.drop (k + 1) = r.drop (k + 1)
      · rw [if_pos h, if_pos (by rw [h])]
      · rw [if_neg h, if_neg (fun e => h (List.cons.inj e).2)]
    · rw [if_neg (c_eq he (by omega) (by omega)), if_neg (fun e => he (List.cons.inj e).1)]
      rfl
/-- are two forms the same -/
theorem k_equal {σ : CS} {T : Nat} {t u : Tr} {p q : Nat} (hT : σ.1 34 1 = i32 T) (hT2 : T ≤ 3600) (hp : pr (fxK σ) t) (hq : pr (fxK σ) u) (hf : fm (σ.1 35) t p) (hg : fm (σ.1 35) u q) (h1 : p + ln t ≤ T) (h2 : q + ln u ≤ T) : f_Signs_equal (i32 p) (i32 q) σ = some (if enc t = enc u then i32 1 else i32 0, σ) := by
  unfold f_Signs_equal
  rw [k_behind hT hT2 hp hf h1, Option.bind_some]
  dsimp only
  rw [k_behind hT hT2 hq hg h2, Option.bind_some]
  dsimp only
  rw [z_sub (by omega), z_sub (by omega), show p + ln t - p = ln t by omega, show q + ln u - q = ln u by omega]
  by_cases he : ln t = ln u
  · rw [if_pos (by rw [he])]
    have := k_equal_l (l := enc t) (r := enc u) (n := ln t) hT hT2 rfl he.symm ((fm_iff t p).mp hf) (fun k hk => (fm_iff u q).mp hg k (by omega)) h1 (by omega) (pr_lt t hp) (pr_lt u hq) (ln t) 10000 0 (by omega) (by omega)
    rw [show (0 : Int32) = i32 0 from rfl, this]
    rfl
  · rw [if_neg (c_eq he (by omega) (by omega)), if_neg (fun e => he (by unfold ln; rw [e]))]
    rfl
/-- nodes given back -/
theorem k_release {σ : CS} {V V' : Nat} (hV' : σ.1 38 4 = i32 V') (h1 : 1 ≤ V) (h : V ≤ V') (hb : V' ≤ 3072) : ∃ τ, f_Values_release (i32 V) σ = some (0, τ) ∧ τ.1 38 4 = i32 V ∧ (∀ T, kpK σ τ V T) ∧ chK AV σ τ := by
  unfold f_Values_release B_Values_release_17
  rw [if_neg (show ¬ (i32 V ≤ 0) from by rw [show (0 : Int32) = i32 0 from rfl, z_le (by omega) (by omega)]; omega), hV']
  by_cases he : V' ≤ V
  · rw [if_pos (show i32 V' ≤ i32 V from by rw [z_le (by omega) (by omega)]; exact he)]
    exact ⟨σ, rfl, by rw [hV']; congr 1; omega, fun T => kK_rf _ _ _, cK_rf _ _⟩
  · rw [if_neg (show ¬ (i32 V' ≤ i32 V) from by rw [z_le (by omega) (by omega)]; exact he)]
    exact ⟨_, rfl, sI_at _ _ _ _, fun T => ⟨fun i _ => ⟨sI_ne _ _ (Or.inl (by decide)), sI_ne _ _ (Or.inl (by decide)), sI_ne _ _ (Or.inl (by decide))⟩, fun i _ => sI_ne _ _ (Or.inl (by decide))⟩, cK_sI σ _ (by decide) (by omega) (by omega) (fun _ _ => by rw [z1, z_le (by omega) (by omega)]; omega)⟩
theorem k_releaseT (x : Int32) (σ : CS) : ∃ y τ, f_Values_release x σ = some (y, τ) ∧ chK AV σ τ := by
  unfold f_Values_release B_Values_release_17
  by_cases h1 : x ≤ 0
  · exact ⟨_, _, if_pos h1, cK_rf _ _⟩
  rw [if_neg h1]
  by_cases h2 : σ.1 38 4 ≤ x
  · exact ⟨_, _, if_pos h2, cK_rf _ _⟩
  rw [if_neg h2]
  exact ⟨_, _, rfl, cK_sI σ _ (by decide) (by omega) (by omega) (fun _ _ => by
    rw [Int32.le_iff_toInt_le] at h1 ⊢
    have e1 : (1 : Int32).toInt = 1 := by decide
    have e0 : (0 : Int32).toInt = 0 := by decide
    rw [e0] at h1
    rw [e1]
    omega)⟩
/-- what writing needs, before it begins -/
def RdP (L : Lw) (N : List Tr) (σ : CS) (V T : Nat) : Prop := lwP L σ T ∧ σ.1 34 1 = i32 T ∧ σ.1 38 4 = i32 V ∧ 1 ≤ V ∧ V ≤ 3072 ∧ N.length ≤ 10 ∧ ∀ (k : Nat) (x : Tr), N[k]? = some x → ∃ q, σ.1 42 k = i32 q ∧ tyS σ V T x q
def bgW (σ : CS) (T : Nat) : CS := sI (sI σ 44 2 (i32 T)) 44 3 0
theorem k_wbegin {σ : CS} {T : Nat} (h : σ.1 34 1 = i32 T) : f_Writer_begin σ = some (0, bgW σ T) := by
  unfold f_Writer_begin
  rw [h]
  rfl
theorem bgW_ne (σ : CS) (T : Nat) {j : Nat} (k : Nat) (h : j ≠ 44) : (bgW σ T).1 j k = σ.1 j k := by
  unfold bgW
  rw [sI_ne _ _ (Or.inl h), sI_ne _ _ (Or.inl h)]
theorem bgW_kp (σ : CS) (T V T' : Nat) : kpK σ (bgW σ T) V T' := ⟨fun i _ => ⟨bgW_ne _ _ _ (by decide), bgW_ne _ _ _ (by decide), bgW_ne _ _ _ (by decide)⟩, fun i _ => bgW_ne _ _ _ (by decide)⟩
theorem bgW_ch (σ : CS) (T : Nat) : chK AW σ (bgW σ T) := cK_tr (cK_sI σ _ (by decide) (by omega) (by omega)) (cK_sI _ _ (by decide) (by omega) (by omega))
theorem WP_begin {L : Lw} {N : List Tr} {σ : CS} {V T : Nat} (h : RdP L N σ V T) (hT : T + 50 ≤ 3600) : WP L N (bgW σ T) V T T := by
  obtain ⟨a1, a2, a3, a4, a5, a6, a7⟩ := h
  have hc := bgW_ch σ T
  have hk := bgW_kp σ T V T
  refine ⟨lwP_kp a1 hk hc n36W n37W (Nat.le_refl _), by rw [bgW_ne _ _ _ (by decide)]; exact a2, Nat.le_refl _, by omega, hT, by rw [bgW_ne _ _ _ (by decide)]; exact a3, a4, a5, ?_, sI_at _ _ _ _, a6, fun k x hk' => ?_⟩
  · unfold bgW
    rw [sI_ne _ _ (Or.inr (by decide)), sI_at]
  · obtain ⟨q, b1, b2⟩ := a7 k x hk'
    exact ⟨q, by rw [bgW_ne _ _ _ (by decide)]; exact b1, tyS_kp hk (cK_fx hc n36W) (Nat.le_refl _) (Nat.le_refl _) b2⟩
/-- what was written, or that it is too large -/
def WrO (σ τ : CS) (V T c n : Nat) (t : Tr) (r : Int32) : Prop := ∃ V' T', τ.1 38 4 = i32 V' ∧ V ≤ V' ∧ V' ≤ V + c ∧ τ.1 34 1 = i32 T' ∧ T ≤ T' ∧ T' ≤ T + 50 ∧ kpK σ τ V T ∧ chK AW σ τ ∧ (∀ k, k < n → τ.1 42 k = σ.1 42 k) ∧ ((fits t n ∧ r = i32 T ∧ fm (τ.1 35) t T ∧ T' = T + ln t) ∨ (¬ fits t n ∧ r = -1))
theorem k_written {σ τ : CS} {V T w n : Nat} {t : Tr} {f : Option (Int32 × CS)} (hrun : TRunK (bgW σ T) V T T n w t f) (hb : V + w + 255 ≤ 3072) (h442 : (bgW σ T).1 44 2 = i32 T) : ∃ r τ, f = some (0, τ) ∧ f_Writer_written τ = some (r, τ) ∧ WrO σ τ V T (w + 255) n t r := by
  have hk := bgW_kp σ T V T
  have hc := bgW_ch σ T
  by_cases h : T + ln t ≤ T + 50 ∧ dp t n
  · obtain ⟨τ, V', e, a1, a2, a3, a4, a5, a6, a7⟩ := hrun.1 h
    refine ⟨i32 T, τ, e, ?_, V', T + ln t, a1, a2, by omega, a4, by omega, by omega, kK_tr hk a7.1 (Nat.le_refl _) (Nat.le_refl _), cK_tr hc a7.2.1, fun k hk' => by rw [a7.2.2.2 k hk']; exact bgW_ne _ _ _ (by decide), Or.inl ⟨⟨by unfold ln at h; omega, h.2⟩, rfl, a5, rfl⟩⟩
    unfold f_Writer_written B_Writer_written_15
    rw [if_pos (show τ.1 44 3 = 0 from a6), a7.2.2.1, h442]
  · obtain ⟨τ, e, V', T', a1, a2, a3, a4, a5, a6, a7, a8⟩ := hrun.2 h
    refine ⟨-1, τ, e, ?_, V', T', a1, a2, by omega, a4, a5, a6, kK_tr hk a8.1 (Nat.le_refl _) (Nat.le_refl _), cK_tr hc a8.2.1, fun k hk' => by rw [a8.2.2.2 k hk']; exact bgW_ne _ _ _ (by decide), Or.inr ⟨fun hf => h ⟨by have := hf.1; unfold ln; omega, hf.2⟩, rfl⟩⟩
    unfold f_Writer_written B_Writer_written_15
    rw [if_neg (show ¬ (τ.1 44 3 = 0) from by rw [a7]; decide)]
set_option maxRecDepth 20000 in
theorem nat_h1 {V V1 V2 w : Nat} (b3 : V2 ≤ V1 + (w + 255)) (a3 : V1 ≤ V + 1555) (hb : V + w + 1810 ≤ 3072) : V2 ≤ 3072 := by omega
set_option maxRecDepth 20000 in
theorem nat_h2 {V V' z : Nat} (b3 : V' ≤ V + (26 * z + 255)) (hl : z ≤ 50) : V' ≤ V + 1555 := by omega
theorem putType120 : f_Writer_putType 120 = (G_Writer 120).1 := rfl
theorem putTerm120 : f_Writer_putTerm 120 = (G_Writer 120).2.1 := rfl
theorem c43_kp (σ : CS) (k : Nat) (x : Int32) (V T : Nat) : kpK σ (sI σ 43 k x) V T := ⟨fun i _ => ⟨sI_ne _ _ (Or.inl (by decide)), sI_ne _ _ (Or.inl (by decide)), sI_ne _ _ (Or.inl (by decide))⟩, fun i _ => sI_ne _ _ (Or.inl (by decide))⟩
/-- a type is written, whole -/
theorem k_wtype {L : Lw} (hlw : lwOK L) {A : Tr} {Γ ρ N : List Tr} {n : Nat} (hA : WT L A Γ) (hen : enV L N ρ Γ) (hN : N.length = n) (hdp : dp A ρ.length) (hρ : ρ.length ≤ 10) (hl : ln A ≤ 50) {V T v : Nat} {σ : CS} (hW : RdP L N σ V T) (hT : T + 50 ≤ 3600) (hb : V + 1555 ≤ 3072) (ht : tyK σ V T A ρ v) : ∃ r τ, f_Writer_putType 120 (i32 v) (i32 n) (bgW σ T) = some (0, τ) ∧ f_Writer_written τ = some (r, τ) ∧ WrO σ τ V T 1555 n (nft A ρ n) r := by
  have hP := WP_begin hW hT
  have run := k_putType hlw A Γ ρ N n hA hen hN hdp hρ hl 120 V T T v (bgW σ T) hP (by omega) (by omega) (tyK_kp (bgW_kp σ T V T) (cK_fx (bgW_ch σ T) n36W) (Nat.le_refl _) (Nat.le_refl _) ht)
  obtain ⟨r, τ, e1, e2, V', T', b1, b2, b3, b4⟩ := k_written (σ := σ) (τ := σ) run (by omega) hP.2.2.2.2.2.2.2.2.1
  have hx : V' ≤ V + 1555 := nat_h2 b3 hl
  exact ⟨r, τ, by rw [putType120]; exact e1, e2, V', T', b1, b2, hx, b4⟩
/-- a term is written, whole -/
theorem k_wterm {L : Lw} {N : List Tr} {s t : Tr} {n w : Nat} {P : CS → Nat → Nat → Nat → Prop} (hw : Wr L N s n P t w) (hP : ∀ (σ τ : CS) (V T V' T' v : Nat), kpK σ τ V T → fxK τ = fxK σ → V ≤ V' → T ≤ T' → P σ V T v → P τ V' T' v) {V T a v : Nat} {σ : CS} (hW : RdP L N σ V T) (hT : T + 50 ≤ 3600) (hb : V + w + 255 ≤ 3072) (ht : tyS σ V T s a) (hv : P σ V T v) : ∃ r τ, f_Writer_putTerm 120 (i32 a) (i32 v) (i32 n) (bgW σ T) = some (0, τ) ∧ f_Writer_written τ = some (r, τ) ∧ WrO σ τ V T (w + 255) n t r := by
  have hk := bgW_kp σ T V T
  have hf := cK_fx (bgW_ch σ T) n36W
  have hP0 := WP_begin hW hT
  have run := hw 120 V T T a v (bgW σ T) hP0 (by omega) (by omega) (tyS_kp hk hf (Nat.le_refl _) (Nat.le_refl _) ht) (hP _ _ _ _ _ _ _ hk hf (Nat.le_refl _) (Nat.le_refl _) hv)
  rw [putTerm120]
  exact k_written (σ := σ) (τ := σ) run hb hP0.2.2.2.2.2.2.2.2.1
def AS : List Nat := [34, 35, 38, 39, 40, 41, 42, 43, 44]
theorem cWS {σ τ : CS} (h : chK AW σ τ) : chK AS σ τ := cK_mo h (by simp only [AW, AS]; intro k hk; simp at hk ⊢; omega)
theorem cVS {σ τ : CS} (h : chK AV σ τ) : chK AS σ τ := cK_mo h (by simp only [AV, AS]; intro k hk; simp at hk ⊢; omega)
theorem cSK {σ τ : CS} (h : chK AS σ τ) : chK AK σ τ := cK_mo h (by simp only [AS, AK]; intro k hk; simp at hk ⊢; omega)
theorem n36S : 36 ∉ AS := by decide
theorem n37S : 37 ∉ AS := by decide
theorem n37K : 37 ∉ AK := by decide
theorem RdP_go {L : Lw} {N : List Tr} {σ τ : CS} {V T V' T' : Nat} (h : RdP L N σ V T) (hk : kpK σ τ V T) (hc : chK AK σ τ) (h42 : ∀ k, k < N.length → τ.1 42 k = σ.1 42 k) (h1 : τ.1 34 1 = i32 T') (hT : T ≤ T') (hV : τ.1 38 4 = i32 V') (hV2 : V ≤ V') (hV3 : V' ≤ 3072) : RdP L N τ V' T' := by
  obtain ⟨a1, a2, a3, a4, a5, a6, a7⟩ := h
  refine ⟨lwP_kp a1 hk hc n36K n37K hT, h1, hV, by omega, hV3, a6, fun k x hk' => ?_⟩
  have hlt := (List.getElem?_eq_some_iff.mp hk').1
  obtain ⟨q, b1, b2⟩ := a7 k x hk'
  exact ⟨q, by rw [h42 k hlt]; exact b1, tyS_kp hk (cK_fx hc n36K) hV2 hT b2⟩
/-- what a reading method leaves for the inferring one -/
def haS (x y : Int32) (σ : CS) : CS := sI (sI σ 43 10 x) 43 11 y
theorem has_go (x y : Int32) (σ : CS) : ((f_Reader_hasRead x y σ).bind fun q => if bzb q.1 then some (q.1, q.2) else none) = some (1, haS x y σ) := by
  unfold f_Reader_hasRead
  rw [Option.bind_some]
  exact if_pos (show bzb 1 = true from by decide)
theorem fail_go (x : Int32) (σ : CS) : ((f_Reader_fail x σ).bind fun q => if bzb q.1 then some (q.1, q.2) else none) = some (0, sI σ 43 8 x) := by
  unfold f_Reader_fail
  rw [Option.bind_some]
  exact if_pos (show bzb 0 = true from by decide)
theorem haS_ne (x y : Int32) (σ : CS) {j : Nat} (k : Nat) (h : j ≠ 43) : (haS x y σ).1 j k = σ.1 j k := by
  unfold haS
  rw [sI_ne _ _ (Or.inl h), sI_ne _ _ (Or.inl h)]
theorem haS_7 (x y : Int32) (σ : CS) : (haS x y σ).1 43 7 = σ.1 43 7 := by
  unfold haS
  rw [sI_ne _ _ (Or.inr (by decide)), sI_ne _ _ (Or.inr (by decide))]
theorem haS_10 (x y : Int32) (σ : CS) : (haS x y σ).1 43 10 = x := by
  unfold haS
  rw [sI_ne _ _ (Or.inr (by decide)), sI_at]
theorem haS_11 (x y : Int32) (σ : CS) : (haS x y σ).1 43 11 = y := by
  unfold haS
  rw [sI_at]
theorem haS_kp (x y : Int32) (σ : CS) (V T : Nat) : kpK σ (haS x y σ) V T := kK_tr (c43_kp σ 10 x V T) (c43_kp _ 11 y V T) (Nat.le_refl _) (Nat.le_refl _)
theorem haS_ch (x y : Int32) (σ : CS) : chK AS σ (haS x y σ) := cK_tr (cK_sI σ _ (by decide) (by omega) (by omega)) (cK_sI _ _ (by decide) (by omega) (by omega))
/-- the end of inferring: type and term are written -/
def tlK (x1 x2 x3 x4 : Int32) (σ : CS) : Option (Int32 × CS) := (if x4 = 0 then some ((-1), σ) else (f_Writer_begin σ).bind fun q1 => (f_Writer_putType 120 (q1.2.1 43 10) x1 q1.2).bind fun q2 => (f_Writer_written q2.2).bind fun q3 => (f_Writer_begin q3.2).bind fun q4 => (f_Writer_putTerm 120 (q4.2.1 43 10) (q4.2.1 43 11) x1 q4.2).bind fun q5 => (f_Writer_written q5.2).bind fun q6 => (f_Values_release x3 q6.2).bind fun q7 => (if q3.1 = (-1) then f_Reader_refuse x2 q7.2 else (if q6.1 = (-1) then f_Reader_refuse x2 q7.2 else some (q6.1, (sI q7.2 43 9 q3.1)))))
theorem tlK_0 (x1 x2 x3 : Int32) (σ : CS) : tlK x1 x2 x3 0 σ = some (-1, σ) := if_pos rfl
/-- what settling answers -/
def SetO (σ τ : CS) (V T p n : Nat) (Ty t : Tr) (r : Int32) : Prop := kpK σ τ V T ∧ chK AS σ τ ∧ (∀ k, k < n → τ.1 42 k = σ.1 42 k) ∧ τ.1 43 7 = σ.1 43 7 ∧ τ.1 38 4 = i32 V ∧ ∃ T', τ.1 34 1 = i32 T' ∧ T ≤ T' ∧ T' ≤ T + 100 ∧ ((fits Ty n ∧ fits t n ∧ ∃ g h, r = i32 g ∧ τ.1 43 9 = i32 h ∧ fm (τ.1 35) t g ∧ g + ln t ≤ T' ∧ fm (τ.1 35) Ty h ∧ h + ln Ty ≤ T') ∨ (¬ (fits Ty n ∧ fits t n) ∧ r = -1 ∧ τ.1 43 8 = i32 p))
/-- the type and the term of what is found -/
theorem k_settle {L : Lw} (hlw : lwOK L) {A t : Tr} {Γ ρ N : List Tr} {n w p V0 : Nat} {P : CS → Nat → Nat → Nat → Prop} (hA : WT L A Γ) (hen : enV L N ρ Γ) (hN : N.length = n) (hdp : dp A ρ.length) (hρ : ρ.length ≤ 10) (hl : ln A ≤ 50) (hw : Wr L N (shp A) n P t w) (hP : ∀ (σ τ : CS) (V T V' T' v : Nat), kpK σ τ V T → fxK τ = fxK σ → V ≤ V' → T ≤ T' → P σ V T v → P τ V' T' v) {V T a v : Nat} {σ0 : CS} (h0 : 1 ≤ V0) (hV0 : V0 ≤ V) (hW0 : RdP L N σ0 V T) (hT : T + 100 ≤ 3600) (hb : V + w + 1810 ≤ 3072) (ht0 : tyK σ0 V T A ρ a) (hv0 : P σ0 V T v) : ∃ r τ, tlK (i32 n) (i32 p) (i32 V0) 1 (haS (i32 a) (i32 v) σ0) = some (r, τ) ∧ SetO σ0 τ V0 T p n (nft A ρ n) t r := by
  have kh := haS_kp (i32 a) (i32 v) σ0 V T
  have ch := haS_ch (i32 a) (i32 v) σ0
  have fh := cK_fx ch n36S
  have hW : RdP L N (haS (i32 a) (i32 v) σ0) V T := RdP_go hW0 kh (cSK ch) (fun k _ => haS_ne _ _ _ _ (by decide)) (by rw [haS_ne _ _ _ _ (by decide)]; exact hW0.2.1) (Nat.le_refl _) (by rw [haS_ne _ _ _ _ (by decide)]; exact hW0.2.2.1) (Nat.le_refl _) hW0.2.2.2.2.1
  have ht := tyK_kp kh fh (Nat.le_refl V) (Nat.le_refl T) ht0
  have hv := hP _ _ _ _ _ _ _ kh fh (Nat.le_refl V) (Nat.le_refl T) hv0
  have o10 := haS_10 (i32 a) (i32 v) σ0
  have o11 := haS_11 (i32 a) (i32 v) σ0
  have o7 := haS_7 (i32 a) (i32 v) σ0
  have o42 : ∀ k, (haS (i32 a) (i32 v) σ0).1 42 k = σ0.1 42 k := fun k => haS_ne _ _ _ _ (by decide)
  generalize haS (i32 a) (i32 v) σ0 = σ at kh ch fh hW ht hv o10 o11 o7 o42
  obtain ⟨r1, τ1, e1, e2, V1, T1, a1, a2, a3, a4, a5, a6, a7, a8, a9, a10⟩ := k_wtype hlw hA hen hN hdp hρ hl hW (by omega) (by omega) ht
  have hW1 : RdP L N τ1 V1 T1 := RdP_go hW a7 (cWK a8) (fun k hk => a9 k (by omega)) a4 a5 a1 a2 (by omega)
  obtain ⟨r2, τ2, f1, f2, V2, T2, b1, b2, b3, b4, b5, b6, b7, b8, b9, b10⟩ := k_wterm hw hP hW1 (by omega) (by omega) (tyS_kp a7 (cK_fx a8 n36W) a2 a5 (tyK_S ht)) (hP _ _ _ _ _ _ _ a7 (cK_fx a8 n36W) a2 a5 hv)
  have n1 : V ≤ V2 := Nat.le_trans a2 b2
  have n2 : V2 ≤ 3072 := nat_h1 b3 a3 hb
  have n3 : T ≤ T2 := Nat.le_trans a5 b5
  have n4 : T2 ≤ T + 100 := by clear e1 e2 f1 f2 a10 b10 hw hP; omega
  obtain ⟨τ3, d1, d2, d3, d4⟩ := k_release b1 h0 (Nat.le_trans hV0 n1) n2
  have kk : kpK σ0 τ3 V0 T := kK_tr (kK_le kh hV0 (Nat.le_refl _)) (kK_tr (kK_le (kK_tr a7 b7 a2 a5) hV0 (Nat.le_refl _)) (d3 T) (Nat.le_refl _) (Nat.le_refl _)) (Nat.le_refl _) (Nat.le_refl _)
  have cc : chK AS σ0 τ3 := cK_tr ch (cK_tr (cWS (cK_tr a8 b8)) (cVS d4))
  have h42 : ∀ k, k < n → τ3.1 42 k = σ0.1 42 k := fun k hk => by rw [d4.2.1 42 (by decide)]; exact ((b9 k hk).trans (a9 k hk)).trans (o42 k)
  have h437 : τ3.1 43 7 = σ0.1 43 7 := by rw [d4.2.1 43 (by decide), (cK_tr a8 b8).2.1 43 (by decide)]; exact o7
  have b4' : τ3.1 34 1 = i32 T2 := by rw [d4.2.1 34 (by decide)]; exact b4
  have r35 : τ3.1 35 = τ2.1 35 := d4.2.1 35 (by decide)
  have neg1 : ∀ x : Nat, x < 4000 → ¬ (i32 x = -1) := fun x hx => i_ne1 (by omega)
  have g10 : (bgW σ T).1 43 10 = i32 a := by rw [bgW_ne _ _ _ (by decide)]; exact o10
  have j10 : (bgW τ1 T1).1 43 10 = i32 a := by rw [bgW_ne _ _ _ (by decide), a8.2.1 43 (by decide)]; exact o10
  have j11 : (bgW τ1 T1).1 43 11 = i32 v := by rw [bgW_ne _ _ _ (by decide), a8.2.1 43 (by decide)]; exact o11
  have hgo : tlK (i32 n) (i32 p) (i32 V0) 1 σ = (if r1 = -1 then f_Reader_refuse (i32 p) τ3 else if r2 = -1 then f_Reader_refuse (i32 p) τ3 else some (r2, sI τ3 43 9 r1)) := by
    unfold tlK
    rw [if_neg (show ¬ ((1 : Int32) = 0) from by decide), k_wbegin hW.2.1, Option.bind_some]
    dsimp only
    rw [g10, e1, Option.bind_some]
    dsimp only
    rw [e2, Option.bind_some]
    dsimp only
    rw [k_wbegin a4, Option.bind_some]
    dsimp only
    rw [j10, j11, f1, Option.bind_some]
    dsimp only
    rw [f2, Option.bind_some]
    dsimp only
    rw [d1, Option.bind_some]
  have bad : ¬ (fits (nft A ρ n) n ∧ fits t n) → f_Reader_refuse (i32 p) τ3 = some (-1, sI τ3 43 8 (i32 p)) → ∃ r τ, some (-1, sI τ3 43 8 (i32 p)) = some (r, τ) ∧ SetO σ0 τ V0 T p n (nft A ρ n) t r := by
    intro hnf _
    have c8 : chK AS τ3 (sI τ3 43 8 (i32 p)) := cK_sI τ3 _ (by decide) (by omega) (by omega)
    refine ⟨-1, sI τ3 43 8 (i32 p), rfl, kK_tr kk (c43_kp τ3 8 (i32 p) V0 T) (Nat.le_refl _) (Nat.le_refl _), cK_tr cc c8, fun k hk => by rw [sI_ne _ _ (Or.inl (by decide))]; exact h42 k hk, by rw [sI_ne _ _ (Or.inr (by decide)), h437], by rw [sI_ne _ _ (Or.inl (by decide))]; exact d2, T2, by rw [sI_ne _ _ (Or.inl (by decide))]; exact b4', n3, n4, Or.inr ⟨hnf, rfl, sI_at _ _ _ _⟩⟩
  have ebad : f_Reader_refuse (i32 p) τ3 = some (-1, sI τ3 43 8 (i32 p)) := rfl
  rw [hgo]
  rcases a10 with ⟨x1, x2, x3, x4⟩ | ⟨x1, x2⟩
  · rw [x2, if_neg (neg1 T (by omega))]
    rcases b10 with ⟨y1, y2, y3, y4⟩ | ⟨y1, y2⟩
    · rw [y2, if_neg (neg1 T1 (by omega))]
      have c9 : chK AS τ3 (sI τ3 43 9 (i32 T)) := cK_sI τ3 _ (by decide) (by omega) (by omega)
      refine ⟨i32 T1, sI τ3 43 9 (i32 T), rfl, kK_tr kk (c43_kp τ3 9 (i32 T) V0 T) (Nat.le_refl _) (Nat.le_refl _), cK_tr cc c9, fun k hk => by rw [sI_ne _ _ (Or.inl (by decide))]; exact h42 k hk, by rw [sI_ne _ _ (Or.inr (by decide)), h437], by rw [sI_ne _ _ (Or.inl (by decide))]; exact d2, T2, by rw [sI_ne _ _ (Or.inl (by decide))]; exact b4', n3, n4, Or.inl ⟨x1, y1, T1, T, rfl, sI_at _ _ _ _, ?_, by omega, ?_, by omega⟩⟩
      · rw [sI_row _ _ (by decide), r35]; exact y3
      · rw [sI_row _ _ (by decide), r35]; exact kK_fm b7 x3 (by omega)
    · rw [y2, if_pos rfl, ebad]
      exact bad (fun h => y1 h.2) ebad
  · rw [x2, if_pos rfl, ebad]
    exact bad (fun h => x1 h.1) ebad
/-- is an inferred type the required one -/
def reK (x3 x4 x5 x6 s0 : Int32) (σ : CS) : Option (Int32 × CS) := (f_Values_release x6 (sI σ 34 1 x5)).bind fun q1 => (if s0 = 0 then f_Reader_refuse x3 q1.2 else some (x4, q1.2))
def rqK (x1 x2 x3 x4 : Int32) (σ : CS) : Option (Int32 × CS) := (f_Writer_begin σ).bind fun q2 => (f_Writer_putType 120 x1 x2 q2.2).bind fun q3 => (f_Writer_written q3.2).bind fun q4 => (if q4.1 = (-1) then reK x3 x4 (σ.1 34 1) (σ.1 38 4) 0 q4.2 else (f_Signs_equal (q4.2.1 43 9) q4.1 q4.2).bind fun q5 => (if q5.1 = 0 then reK x3 x4 (σ.1 34 1) (σ.1 38 4) 0 q5.2 else reK x3 x4 (σ.1 34 1) (σ.1 38 4) 1 q5.2))
theorem k_isRequired {L : Lw} (hlw : lwOK L) {A Ty : Tr} {Γ ρ N : List Tr} {n h : Nat} (x3 x4 : Int32) (hA : WT L A Γ) (hen : enV L N ρ Γ) (hN : N.length = n) (hdp : dp A ρ.length) (hρ : ρ.length ≤ 10) (hl : ln A ≤ 50) {V T a : Nat} {σ : CS} (hW : RdP L N σ V T) (hT : T + 50 ≤ 3600) (hb : V + 1555 ≤ 3072) (ht : tyK σ V T A ρ a) (hTy : WT L Ty N) (hfx : ∀ k, k < L.1.length → fxK σ k = fxL L k) (h9 : σ.1 43 9 = i32 h) (hf : fm (σ.1 35) Ty h) (hh : h + ln Ty ≤ T) : ∃ τ, rqK (i32 a) (i32 n) x3 x4 σ = cif (fits (nft A ρ n) n ∧ enc (nft A ρ n) = enc Ty) (some (x4, τ)) (f_Reader_refuse x3 τ) ∧ kpK σ τ V T ∧ chK AS σ τ ∧ (∀ k, k < n → τ.1 42 k = σ.1 42 k) ∧ τ.1 38 4 = i32 V ∧ τ.1 34 1 = i32 T ∧ τ.1 43 = σ.1 43 := by
  obtain ⟨r1, τ1, e1, e2, V1, T1, a1, a2, a3, a4, a5, a6, a7, a8, a9, a10⟩ := k_wtype hlw hA hen hN hdp hρ hl hW hT (by omega) ht
  have fin : ∃ τ, (∀ s0 : Int32, reK x3 x4 (σ.1 34 1) (σ.1 38 4) s0 τ1 = (if s0 = 0 then f_Reader_refuse x3 τ else some (x4, τ))) ∧ kpK σ τ V T ∧ chK AS σ τ ∧ (∀ k, k < n → τ.1 42 k = σ.1 42 k) ∧ τ.1 38 4 = i32 V ∧ τ.1 34 1 = i32 T ∧ τ.1 43 = σ.1 43 := by
    have k1 : kpK τ1 (sI τ1 34 1 (i32 T)) V T := ⟨fun i _ => ⟨sI_ne _ _ (Or.inl (by decide)), sI_ne _ _ (Or.inl (by decide)), sI_ne _ _ (Or.inl (by decide))⟩, fun i _ => sI_ne _ _ (Or.inl (by decide))⟩
    have c1 : chK AW τ1 (sI τ1 34 1 (i32 T)) := cK_sI τ1 _ (by decide) (fun _ => rfl) (by omega)
    obtain ⟨τ, g1, g2, g3, g4⟩ := k_release (σ := sI τ1 34 1 (i32 T)) (V := V) (V' := V1) (by rw [sI_ne _ _ (Or.inl (by decide))]; exact a1) hW.2.2.2.1 a2 (by omega)
    refine ⟨τ, fun s0 => ?_, kK_tr a7 (kK_tr k1 (g3 T) (Nat.le_refl _) (Nat.le_refl _)) (Nat.le_refl _) (Nat.le_refl _), cK_tr (cWS a8) (cK_tr (cWS c1) (cVS g4)), fun k hk => ?_, g2, ?_, ?_⟩
    · unfold reK
      rw [hW.2.1, hW.2.2.1, g1, Option.bind_some]
    · rw [g4.2.1 42 (by decide), sI_ne _ _ (Or.inl (by decide))]; exact a9 k hk
    · rw [g4.2.1 34 (by decide)]; exact sI_at _ _ _ _
    · rw [g4.2.1 43 (by decide), sI_row _ _ (by decide), a8.2.1 43 (by decide)]
  obtain ⟨τ, fe, frest⟩ := fin
  refine ⟨τ, ?_, frest⟩
  have hgo : rqK (i32 a) (i32 n) x3 x4 σ = (if r1 = -1 then reK x3 x4 (σ.1 34 1) (σ.1 38 4) 0 τ1 else (f_Signs_equal (i32 h) r1 τ1).bind fun q4 => (if q4.1 = 0 then reK x3 x4 (σ.1 34 1) (σ.1 38 4) 0 q4.2 else reK x3 x4 (σ.1 34 1) (σ.1 38 4) 1 q4.2)) := by
    unfold rqK
    rw [k_wbegin hW.2.1, Option.bind_some]
    dsimp only
    rw [e1, Option.bind_some]
    dsimp only
    rw [e2, Option.bind_some]
    dsimp only
    rw [show τ1.1 43 9 = i32 h from by rw [a8.2.1 43 (by decide)]; exact h9]
  rw [hgo]
  rcases a10 with ⟨x1, x2, x3', x4'⟩ | ⟨x1, x2⟩
  · have fx1 := cK_fx a8 n36W
    have fxt : ∀ k, k < L.1.length → fxK τ1 k = fxL L k := fun k hk => by rw [fx1]; exact hfx k hk
    have p1 := WT_pr ⟨hlw.1, hlw.2.1⟩ fxt _ _ hTy
    have dpA := (dp_nft A Γ ρ N n hA hen hN).mp x1.2
    have p2 := WT_pr ⟨hlw.1, hlw.2.1⟩ fxt _ _ (nft_WT A Γ ρ N n hA hen hN dpA)
    rw [x2, if_neg (i_ne1 (a := T) (by omega)), k_equal a4 (by omega) p1 p2 (kK_fm a7 hf hh) x3' (by omega) (by omega), Option.bind_some]
    dsimp only
    by_cases he : enc Ty = enc (nft A ρ n)
    · rw [if_pos he, if_neg (show ¬ (i32 1 = 0) from by decide), cif_pos ⟨x1, he.symm⟩, fe]
      exact if_neg (by decide)
    · rw [if_neg he, if_pos (show i32 0 = 0 from rfl), cif_neg (fun h => he h.2.symm), fe]
      exact if_pos rfl
  · rw [x2, if_pos rfl, cif_neg (fun h => x1 h.1), fe]
    exact if_pos rfl
end KREAD0

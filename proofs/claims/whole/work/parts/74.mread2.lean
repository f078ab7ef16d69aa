section MREAD2
variable {L : Lw} {ents : List (Tr × Tr)} {tx : List Nat}
def AF : List Nat := [1, 11, 12, 13, 14, 15, 16, 17, 18, 19, 20, 21, 22]
def Fnd (σ : MS) (f : Option (Int32 × MS)) (V E T p n nd : Nat) (rq : Rq) (Ty t : Tr) : Prop :=
  (fits Ty n ∧ fits t n ∧ Sat nd rq Ty n → ∃ τ T' g h, f = some (0, τ) ∧ kp σ τ V E T ∧ ch FE AF σ τ ∧ τ.1 1 = i32 T' ∧ T ≤ T' ∧ T' ≤ T + 160 ∧ τ.1 19 = i32 V ∧ τ.1 21 = i32 E ∧ τ.1 57 = -9 ∧ τ.1 52 = i32 2 ∧ τ.1 53 = i32 p ∧ τ.1 54 = i32 h ∧ fm (τ.2.1 1) t h ∧ h + ln t ≤ T' ∧ τ.1 55 = i32 g ∧ fm (τ.2.1 1) Ty g ∧ g + ln Ty ≤ T' ∧ 1734 ≤ h)
  ∧ (¬ (fits Ty n ∧ fits t n ∧ Sat nd rq Ty n) → ∃ τ, f = some (0, τ) ∧ kp σ τ V E T ∧ ch FE AF σ τ ∧ τ.1 57 = i32 p)
theorem cYF {a b : MS} (h : ch FY AY a b) : ch FE AF a b := ch_mo h (by simp [FE, FY]) (by simp only [AY, AF]; intro k hk; simp at hk ⊢; omega)
theorem cLF {a b : MS} (h : ch FY AL a b) : ch FE AF a b := ch_mo h (by simp [FE, FY]) (by simp only [AL, AF]; intro k hk; simp at hk ⊢; omega)
theorem cYA {a b : MS} (h : ch FY AY a b) : ch FY AF a b := ch_mo h (fun _ h => h) (by simp only [AY, AF]; intro k hk; simp at hk ⊢; omega)
theorem cLA {a b : MS} (h : ch FY AL a b) : ch FY AF a b := ch_mo h (fun _ h => h) (by simp only [AL, AF]; intro k hk; simp at hk ⊢; omega)
theorem cFE {a b : MS} (h : ch FY AF a b) : ch FE AF a b := ch_mo h (by simp [FE, FY]) (fun _ h => h)
theorem cFR {a b : MS} (h : ch FE AF a b) : ch FR AR a b := ch_mo h (by simp only [FE, FR]; intro k hk; simp at hk ⊢; omega) (by simp only [AF, AR]; intro k hk; simp at hk ⊢; omega)
theorem cEF {a b : MS} (h : ch FE AY a b) : ch FE AF a b := ch_mo h (fun _ h => h) (by simp only [AY, AF]; intro k hk; simp at hk ⊢; omega)
theorem Need_kp {σ τ : MS} {V E T V' E' T' nd : Nat} {vt : List Rq} {rq : Rq} (h : Need L σ V E T vt nd rq) (hk : kp σ τ V E T) (hV : V ≤ V') (hE : E ≤ E') (hT : T ≤ T') (e : ∀ k, 47 ≤ k → k ≤ 50 → τ.1 k = σ.1 k) : Need L τ V' E' T' vt nd rq := by
  rcases h with ⟨h1, h2⟩ | ⟨h1, h2, h3, q, e', h4, h5, h6, h7, h8, h9⟩
  · exact Or.inl ⟨h1, by rw [e 47 (by omega) (by omega)]; exact h2⟩
  · exact Or.inr ⟨h1, by rw [e 47 (by omega) (by omega)]; exact h2, h3, q, e', by rw [e 48 (by omega) (by omega)]; exact h4, by rw [e 49 (by omega) (by omega)]; exact h5, by rw [e 50 (by omega) (by omega)]; exact h6, kp_fm hk h7 h8, by omega, rp_kp hk hV hE hT _ _ _ h9⟩
/-- behind what computed a type and a term -/
theorem m_fnd (hw : WL L ents tx) {σ σ1 : MS} {V E T T1 n nd g h p : Nat} {vt : List Rq} {rq : Rq} {Ty t : Tr} {r1 r2 : Int32} (hk : kp σ σ1 V E T) (hc : ch FE AF σ σ1) (hT : T ≤ T1) (hT2 : T1 ≤ T + 110) (hs : RS L ents tx σ1) (hv : vtOK L vt) (hn : vt.length = n) (hN : Need L σ1 V E T1 vt nd rq) (h1 : σ1.1 1 = i32 T1) (h19 : σ1.1 19 = i32 V) (h21 : σ1.1 21 = i32 E) (h46 : σ1.1 46 = i32 n) (h57 : σ1.1 57 = -9) (hW : fits Ty n → WT L Ty (ctx vt)) (g1 : plc σ1 T1 Ty n r1 g) (g2 : fits Ty n → plc σ1 T1 t n r2 h) (b1 : T1 + 60 ≤ 9400) (b2 : E ≤ 42) (b3 : V + 1300 ≤ 2400) (b4 : 20 ≤ V) (b6 : 1 ≤ E) (hlo : fits t n → 1734 ≤ h) : Fnd σ (f_endsFound (i32 p) r1 r2 σ1) V E T p n nd rq Ty t := by
  have r := m_endsFound (p := p) hw hs hv hn hN h1 h19 h21 h46 h57 hW g1 g2 b1 b2 b3 b4 b6
  constructor
  · intro hf
    obtain ⟨τ, T', e1, e2, e3, e4, e5, e6, e7, e8, e9, e10, e11, e12, e13⟩ := r.1 hf
    clear r
    have q1 : r1 = i32 g ∧ fm (σ1.2.1 1) Ty g ∧ g + ln Ty ≤ T1 := by
      rcases g1 with ⟨_, a⟩ | ⟨a, _⟩
      · exact a
      · exact absurd hf.1 a
    have q2 : r2 = i32 h ∧ fm (σ1.2.1 1) t h ∧ h + ln t ≤ T1 := by
      rcases g2 hf.1 with ⟨_, a⟩ | ⟨a, _⟩
      · exact a
      · exact absurd hf.2.1 a
    exact ⟨τ, T', g, h, e1, kp_tr hk (kp_le e2 (Nat.le_refl _) (Nat.le_refl _) hT) (Nat.le_refl _) (Nat.le_refl _) (Nat.le_refl _), ch_tr hc (cEF e3), e4, by omega, by omega, e7, e8, e9, e10, e11, e12, kp_fm e2 q2.2.1 q2.2.2, by omega, e13, kp_fm e2 q1.2.1 q1.2.2, by omega, hlo hf.2.1⟩
  · intro hf
    obtain ⟨τ, e1, e2, e3, e4⟩ := r.2 hf
    exact ⟨τ, e1, kp_tr hk (kp_le e2 (Nat.le_refl _) (Nat.le_refl _) hT) (Nat.le_refl _) (Nat.le_refl _) (Nat.le_refl _), ch_tr hc (cEF e3), e4⟩
/-- the names, as the row 0 tells them -/
theorem rp_id {σ : MS} {V E T : Nat} (hs : RS L ents tx σ) (hV : 20 ≤ V) (hE : 1 ≤ E) : ∀ k, k ≤ 10 → rpM σ V E T true (eL (idr k)) 0 := by
  intro k
  induction k with
  | zero => intro _; exact hE
  | succ k ih =>
    intro hk
    rw [idr_succ, eL_snoc]
    refine ⟨by rw [dL_eL, idr_len]; omega, ⟨k, ?_, by omega, Or.inl ⟨by omega, by omega, ?_⟩⟩, ih (by omega)⟩
    · rw [dL_eL, idr_len, Nat.mul_zero, Nat.zero_add]; exact RS_row hs k (by omega)
    · rw [RS_nm hs k (by omega)]; congr 1; omega
theorem take_id (vt : List Rq) {k : Nat} (hk : k ≤ vt.length) (hv : vt.length ≤ 10) : enV L (ctx vt) (idr k) ((ctx vt).take k) := by
  have hl : ((ctx vt).take k).length = k := by simp [ctx]; omega
  have := enV_id (L := L) (N := (ctx vt).take k) (by omega)
  rw [hl] at this
  have h2 := enV_wk ((ctx vt).drop k) this
  rwa [List.take_append_drop] at h2
/-- typeNow: a type as it stands now -/
theorem m_typeNow (hw : WL L ents tx) {σ : MS} {V E T n k : Nat} {vt : List Rq} {rq : Rq} {x : Int32} (hs : RS L ents tx σ) (hv : vtOK L vt) (hn : vt.length = n) (hk : k ≤ n) {Γ : List Tr} (w1 : WT L rq.1 Γ) (w2 : enV L ((ctx vt).take k) rq.2 Γ) (hx : ntOK σ T rq k x) (h1 : σ.1 1 = i32 T) (h19 : σ.1 19 = i32 V) (h21 : σ.1 21 = i32 E) (h46 : σ.1 46 = i32 n) (b1 : T + 60 ≤ 9400) (b2 : E ≤ 42) (b3 : V + 1300 ≤ 2400) (b4 : 20 ≤ V) (b6 : 1 ≤ E) : ∃ r τ T1, f_typeNow x (i32 k) σ = some (r, τ) ∧ kp σ τ V E T ∧ ch FY AF σ τ ∧ T ≤ T1 ∧ T1 ≤ T + 50 ∧ τ.1 1 = i32 T1 ∧ τ.1 19 = i32 V ∧ τ.1 21 = i32 E ∧ plc τ T1 (nft rq.1 rq.2 n) n r T := by
  have hlt : ((ctx vt).take k).length = k := by simp [ctx]; omega
  have hnn : (ctx vt).length = n := by rw [ctx_len]; exact hn
  have w2' : enV L (ctx vt) rq.2 Γ := by
    have := enV_wk ((ctx vt).drop k) w2
    rwa [List.take_append_drop] at this
  unfold f_typeNow B_typeNow_20
  rcases hx with ⟨f1, q, rfl, f2, f3⟩ | ⟨f1, rfl⟩
  · have hdk : dp rq.1 k := (dp_nft _ _ _ _ _ w1 w2 hlt).mp f1.2
    have wk := nft_WT _ _ _ _ _ w1 w2 hlt hdk
    have hpr := WT_pr (W34 hw) (RS_fx hs) _ _ wk
    have hln : ln (nft rq.1 rq.2 k) ≤ 50 := f1.1
    obtain ⟨r, τ, t1, t2, t3, t4, t5, t6⟩ := m_typeBy (names := n) (base := k) (e := 0) (W34 hw).2 wk (take_id vt (by omega) hv.1) hnn (by have := hv.1; omega) (idr_len k) f1.2 (by have := hv.1; omega) hpr f2 f3 hln h1 h19 h21 (rp_id hs b4 b6 k (by have := hv.1; omega)) b1 b2 b3 b4 (RS_nm hs)
    rw [nft_at n w1 w2 hlt hdk] at t6
    rw [if_neg (i_ne1 (by omega)), h46, show (0 : Int32) = i32 0 from rfl, t1, Option.bind_some]
    rcases t6 with ⟨g1, rfl, g2, g3⟩ | ⟨g1, rfl, g2⟩
    · have : ln (nft rq.1 rq.2 n) ≤ 50 := g1.1
      exact ⟨_, τ, T + ln (nft rq.1 rq.2 n), rfl, t2, cYA t3, by omega, by omega, g2, t4, t5, Or.inl ⟨g1, rfl, g3, Nat.le_refl _⟩⟩
    · exact ⟨_, τ, T, rfl, t2, cYA t3, Nat.le_refl _, by omega, g2, t4, t5, Or.inr ⟨g1, rfl⟩⟩
  · rw [if_pos rfl]
    refine ⟨_, σ, T, rfl, kp_rf _ _ _ _, ch_rf _ _ _, Nat.le_refl _, by omega, h1, h19, h21, Or.inr ⟨fun h => f1 ?_, rfl⟩⟩
    have hd := (dp_nft _ _ _ _ _ w1 w2' hnn).mp h.2
    exact fits_down w1 w2 hlt hk hd h.1
/-- a name or a constant -/
theorem m_readsSimple (hw : WL L ents tx) {σ : MS} {V E T n k nd p v : Nat} {vt : List Rq} {rq rq' : Rq} {x : Int32} {w : Tr} (hs : RS L ents tx σ) (hv : vtOK L vt) (hn : vt.length = n) (hk : k ≤ n) {Γ : List Tr} (w1 : WT L rq.1 Γ) (w2 : enV L ((ctx vt).take k) rq.2 Γ) (hx : ntOK σ T rq k x) (hwr : HT L w (ctx vt) false (shp rq.1)) (hvr : rpM σ V E T false w v) (hN : Need L σ V E T vt nd rq') (h1 : σ.1 1 = i32 T) (h19 : σ.1 19 = i32 V) (h21 : σ.1 21 = i32 E) (h46 : σ.1 46 = i32 n) (h57 : σ.1 57 = -9) (b1 : T + 200 ≤ 9400) (b2 : E ≤ 42) (b3 : V + 1300 ≤ 2400) (b4 : 20 ≤ V) (b6 : 1 ≤ E) (bT : 1734 ≤ T) : Fnd σ (f_readsSimple (i32 p) (i32 v) x (i32 k) σ) V E T p n nd rq' (nft rq.1 rq.2 n) (et (shp rq.1) w n) := by
  obtain ⟨r, τ, T1, t1, t2, t3, t4, t5, t6, t7, t8, t9⟩ := m_typeNow hw hs hv hn hk w1 w2 hx h1 h19 h21 h46 (by omega) b2 b3 b4 b6
  have hnn : (ctx vt).length = n := by rw [ctx_len]; exact hn
  have w2' : enV L (ctx vt) rq.2 Γ := by
    have := enV_wk ((ctx vt).drop k) w2
    rwa [List.take_append_drop] at this
  have hWn : fits (nft rq.1 rq.2 n) n → WT L (nft rq.1 rq.2 n) (ctx vt) := fun h => nft_WT _ _ _ _ _ w1 w2' hnn ((dp_nft _ _ _ _ _ w1 w2' hnn).mp h.2)
  have hsτ := RS_kp hw hs t2 b4 b6 bT (cFR (cFE t3))
  have e46 : τ.1 46 = i32 n := by rw [t3.1 46 (by simp [FY])]; exact h46
  have e57 : τ.1 57 = -9 := by rw [t3.1 57 (by simp [FY])]; exact h57
  have hN1 : Need L τ V E T1 vt nd rq' := Need_kp hN t2 (Nat.le_refl _) (Nat.le_refl _) t4 (fun k h1 h2 => t3.1 k (by simp only [FY]; simp; omega))
  have fin : ∀ {f : Option (Int32 × MS)}, Fnd σ f V E T p n nd rq' (nft rq.1 rq.2 n) (et (shp rq.1) w n) → Fnd σ (f.bind fun q1 => some (0, q1.2)) V E T p n nd rq' (nft rq.1 rq.2 n) (et (shp rq.1) w n) := by
    intro f hf
    constructor
    · intro h
      obtain ⟨τ, T', g, h', e, rest⟩ := hf.1 h
      exact ⟨τ, T', g, h', by rw [e]; rfl, rest⟩
    · intro h
      obtain ⟨τ, e, rest⟩ := hf.2 h
      exact ⟨τ, by rw [e]; rfl, rest⟩
  unfold f_readsSimple B_readsSimple_30
  rw [t1, Option.bind_some]
  dsimp only
  rcases t9 with ⟨f1, rfl, f2, f3⟩ | ⟨f1, rfl⟩
  · have wn := hWn f1
    have hprn := WT_pr (W34 hw) (RS_fx hsτ) _ _ wn
    have hln : ln (nft rq.1 rq.2 n) ≤ 50 := f1.1
    obtain ⟨r2, υ, u1, u2, u3, u4, u5, u6⟩ := m_longBy wn (by rw [nft_shp]; exact hwr) hnn (by have := hv.1; omega) hprn f2 f3 hln t6 t7 t8 (rp_kp t2 (Nat.le_refl _) (Nat.le_refl _) t4 _ _ _ hvr) (by omega) (by omega) (by omega) b4 (RS_nm hsτ)
    rw [nft_shp] at u6
    rw [if_neg (i_ne1 (by omega)), e46, u1, Option.bind_some]
    dsimp only
    have kυ : kp σ υ V E T := kp_tr t2 (kp_le u2 (Nat.le_refl _) (Nat.le_refl _) t4) (Nat.le_refl _) (Nat.le_refl _) (Nat.le_refl _)
    have hsυ := RS_kp hw hsτ u2 b4 b6 (by omega) (cFR (cFE (cLA u3)))
    have hN2 : ∀ T2, T1 ≤ T2 → Need L υ V E T2 vt nd rq' := fun T2 hT2 => Need_kp hN1 u2 (Nat.le_refl _) (Nat.le_refl _) hT2 (fun k h1 h2 => u3.1 k (by simp only [FY]; simp; omega))
    have v46 : υ.1 46 = i32 n := by rw [u3.1 46 (by simp [FY])]; exact e46
    have v57 : υ.1 57 = -9 := by rw [u3.1 57 (by simp [FY])]; exact e57
    rcases u6 with ⟨k1, rfl, k2, k3⟩ | ⟨k1, rfl, k2⟩
    · have hln2 : ln (et (shp rq.1) w n) ≤ 50 := k1.1
      exact fin (m_fnd hw kυ (ch_tr (cFE t3) (cFE (cLA u3))) (T1 := T1 + ln (et (shp rq.1) w n)) (by omega) (by omega) hsυ hv hn (hN2 _ (by omega)) k2 u4 u5 v46 v57 hWn (Or.inl ⟨f1, rfl, kp_fm u2 f2 f3, by omega⟩) (fun _ => Or.inl ⟨k1, rfl, k3, Nat.le_refl _⟩) (by omega) b2 b3 b4 b6 (fun _ => by omega))
    · exact fin (m_fnd (h := 0) hw kυ (ch_tr (cFE t3) (cFE (cLA u3))) (T1 := T1) (by omega) (by omega) hsυ hv hn (hN2 _ (Nat.le_refl _)) k2 u4 u5 v46 v57 hWn (Or.inl ⟨f1, rfl, kp_fm u2 f2 f3, f3⟩) (fun _ => Or.inr ⟨k1, rfl⟩) (by omega) b2 b3 b4 b6 (fun h => absurd h k1))
  · rw [if_pos rfl]
    exact fin (m_fnd (g := 0) (h := 1734) hw t2 (cFE t3) t4 (by omega) hsτ hv hn hN1 t6 t7 t8 e46 e57 hWn (Or.inr ⟨f1, rfl⟩) (fun h => absurd h f1) (by omega) b2 b3 b4 b6 (fun _ => Nat.le_refl _))
end MREAD2

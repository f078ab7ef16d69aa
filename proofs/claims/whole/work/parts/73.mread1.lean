section MREAD1
variable {L : Lw} {ents : List (Tr × Tr)} {tx : List Nat}
/-- what is asked of a term that is inferred: 0 nothing, 1 a function type, 2 a pair type, 3 this type -/
def Need (L : Lw) (σ : MS) (V E T : Nat) (vt : List Rq) (nd : Nat) (rq : Rq) : Prop := (nd < 3 ∧ σ.1 47 = i32 nd) ∨ (nd = 3 ∧ σ.1 47 = i32 3 ∧ rqOK L vt rq ∧ ∃ q e, σ.1 48 = i32 q ∧ σ.1 49 = i32 rq.2.length ∧ σ.1 50 = i32 e ∧ fm (σ.2.1 1) rq.1 q ∧ q + ln rq.1 ≤ T ∧ rpM σ V E T true (eL rq.2) e)
def Sat (nd : Nat) (rq : Rq) (Ty : Tr) (n : Nat) : Prop := nd = 0 ∨ (nd = 1 ∧ hdr Ty = 80) ∨ (nd = 2 ∧ hdr Ty = 83) ∨ (nd = 3 ∧ isReq Ty rq n)
def FE : List Nat := [1, 19, 21, 24, 27, 52, 53, 54, 55, 57]
theorem RS_fx {σ : MS} (h : RS L ents tx σ) : ∀ k, k < L.1.length → fxM σ k = fxL L k := h.2.2.2.2.2.1
theorem RS_nm {σ : MS} (h : RS L ents tx σ) : ∀ k, k < 20 → σ.2.2 k = pk 0 k 0 0 := h.2.2.2.2.2.2.2.2.1
theorem RS_row {σ : MS} (h : RS L ents tx σ) : ∀ k, k < 10 → σ.2.1 11 k = i32 k := h.2.2.2.2.2.2.2.2.2
theorem W34 (hw : WL L ents tx) : L.1.length ≤ 3 ∧ L.2.length ≤ 4 := ⟨hw.1.1, hw.1.2.1⟩
theorem hdr_fm {g : Nat → Int32} {f : Nat → Bool} {t : Tr} {p : Nat} (h : fm g t p) (hp : pr f t) : g p = i32 (hdr t) := by
  cases t with
  | leaf s => exact h hp.1
  | branch s a b => exact h.1
theorem hdr_lt {f : Nat → Bool} {t : Tr} (hp : pr f t) : hdr t < 128 := by
  cases t with
  | leaf s => exact hp.2.1
  | branch s a b => exact hp.2.1
/-- is the inferred type what is asked -/
theorem m_isNeeded (hw : WL L ents tx) {σ : MS} {V E T n nd g : Nat} {vt : List Rq} {rq : Rq} {Ty : Tr} (hs : RS L ents tx σ) (hv : vtOK L vt) (hn : vt.length = n) (hN : Need L σ V E T vt nd rq) (h1 : σ.1 1 = i32 T) (h19 : σ.1 19 = i32 V) (h21 : σ.1 21 = i32 E) (h46 : σ.1 46 = i32 n) (hW : WT L Ty (ctx vt)) (hl : ln Ty ≤ 50) (hg : fm (σ.2.1 1) Ty g) (hgT : g + ln Ty ≤ T) (b1 : T + 60 ≤ 9400) (b2 : E ≤ 42) (b3 : V + 1300 ≤ 2400) (b4 : 20 ≤ V) (b6 : 1 ≤ E) :
    ∃ τ b T', f_isNeeded (i32 g) σ = some (b, τ) ∧ ((b = i32 1 ∧ Sat nd rq Ty n) ∨ (b = i32 0 ∧ ¬ Sat nd rq Ty n)) ∧ kp σ τ V E T ∧ ch FY AY σ τ ∧ τ.1 1 = i32 T' ∧ T ≤ T' ∧ T' ≤ T + 50 ∧ τ.1 19 = i32 V ∧ τ.1 21 = i32 E := by
  have hprT := WT_pr (W34 hw) (RS_fx hs) Ty _ hW
  rcases hN with ⟨h3, h47⟩ | ⟨rfl, h47, hrq, q, e, h48, h49, h50, hq, hqT, he⟩
  · refine ⟨σ, ?_⟩
    have h47' : ∀ k, k ≠ nd → k < 100 → ¬ (σ.1 47 = i32 k) := fun k hk hk2 => by rw [h47]; exact c_eq (Ne.symm hk) (by omega) (by omega)
    unfold f_isNeeded B_isNeeded_36 B_isNeeded_39 B_isNeeded_44
    rw [if_neg (show ¬ (σ.1 47 = 3) from h47' 3 (by omega) (by omega))]
    have fin : ∀ b : Int32, ((b = i32 1 ∧ Sat nd rq Ty n) ∨ (b = i32 0 ∧ ¬ Sat nd rq Ty n)) → ∃ b' T', some (b, σ) = some (b', σ) ∧ ((b' = i32 1 ∧ Sat nd rq Ty n) ∨ (b' = i32 0 ∧ ¬ Sat nd rq Ty n)) ∧ kp σ σ V E T ∧ ch FY AY σ σ ∧ σ.1 1 = i32 T' ∧ T ≤ T' ∧ T' ≤ T + 50 ∧ σ.1 19 = i32 V ∧ σ.1 21 = i32 E := fun b hb => ⟨b, T, rfl, hb, kp_rf _ _ _ _, ch_rf _ _ _, h1, Nat.le_refl _, by omega, h19, h21⟩
    by_cases h0 : nd = 0
    · subst h0
      rw [if_pos (show σ.1 47 = 0 from h47), if_pos (show bzb 1 = true from rfl)]
      exact fin (i32 1) (Or.inl ⟨rfl, Or.inl rfl⟩)
    · have hlt := hdr_lt hprT
      have hgl := pr_pos hprT
      rw [if_neg (show ¬ (σ.1 47 = 0) from h47' 0 (Ne.symm h0) (by omega)), if_pos (c_ix (show g < aln 1 by show g < 9400; omega) (by omega)), z_nn (by omega), hdr_fm hg hprT]
      by_cases h1' : nd = 1
      · subst h1'
        rw [if_pos (show σ.1 47 = 1 from h47)]
        by_cases hh : hdr Ty = 80
        · rw [if_pos (show i32 (hdr Ty) = 80 from by rw [hh]; rfl), if_pos (show bzb 1 = true from rfl)]
          exact fin (i32 1) (Or.inl ⟨rfl, Or.inr (Or.inl ⟨rfl, hh⟩)⟩)
        · rw [if_neg (show ¬ (i32 (hdr Ty) = 80) from c_eq (b := 80) hh (by omega) (by omega)), if_pos (show bzb 0 = true from rfl)]
          exact fin (i32 0) (Or.inr ⟨rfl, fun h => by rcases h with h | ⟨_, h⟩ | ⟨h, _⟩ | ⟨h, _⟩ <;> omega⟩)
      · obtain rfl : nd = 2 := by omega
        rw [if_neg (show ¬ (σ.1 47 = 1) from h47' 1 (by omega) (by omega))]
        by_cases hh : hdr Ty = 83
        · rw [if_pos (show i32 (hdr Ty) = 83 from by rw [hh]; rfl), if_pos (show bzb 1 = true from rfl)]
          exact fin (i32 1) (Or.inl ⟨rfl, Or.inr (Or.inr (Or.inl ⟨rfl, hh⟩))⟩)
        · rw [if_neg (show ¬ (i32 (hdr Ty) = 83) from c_eq (b := 83) hh (by omega) (by omega)), if_pos (show bzb 0 = true from rfl)]
          exact fin (i32 0) (Or.inr ⟨rfl, fun h => by rcases h with h | ⟨h, _⟩ | ⟨_, h⟩ | ⟨h, _⟩ <;> omega⟩)
  · obtain ⟨Γ, w1, w2, w3, w4, w5⟩ := hrq
    have hpr := WT_pr (W34 hw) (RS_fx hs) rq.1 _ w1
    obtain ⟨r, τ, t1, t2, t3, t4, t5, t6⟩ := m_typeBy (names := n) (W34 hw).2 w1 w2 (by rw [ctx_len]; exact hn) (by have := hv.1; omega) rfl w3 w4 hpr hq hqT w5 h1 h19 h21 he b1 b2 b3 b4 (RS_nm hs)
    unfold f_isNeeded B_isNeeded_84 B_isNeeded_85
    rw [if_pos (show σ.1 47 = 3 from h47), h48, h49, h50, h46, t1, Option.bind_some]
    dsimp only
    rcases t6 with ⟨f1, rfl, f2, f3⟩ | ⟨f1, rfl, f2⟩
    · have hnn : (ctx vt).length = n := by rw [ctx_len]; exact hn
      have wn := nft_WT _ _ _ _ _ w1 w2 hnn ((dp_nft _ _ _ _ _ w1 w2 hnn).mp f1.2)
      have hfx : ∀ k, k < L.1.length → fxM τ k = fxL L k := fun k hk => by rw [kp_fx t2]; exact RS_fx hs k hk
      have hpn := WT_pr (W34 hw) hfx _ _ wn
      have hln : ln (nft rq.1 rq.2 n) ≤ 50 := f1.1
      have esame := m_isSame (σ := τ) (p := T) (q := g) hpn (WT_pr (W34 hw) hfx Ty _ hW) f3 (kp_fm t2 hg hgT) (by omega) (by omega)
      rw [if_neg (i_ne1 (by omega)), esame, Option.bind_some]
      dsimp only
      by_cases hsm : enc (nft rq.1 rq.2 n) = enc Ty
      · rw [if_pos hsm, if_neg (show ¬ (i32 1 = 0) from by decide), if_pos (show bzb 1 = true from rfl)]
        exact ⟨τ, i32 1, T + ln (nft rq.1 rq.2 n), rfl, Or.inl ⟨rfl, Or.inr (Or.inr (Or.inr ⟨rfl, f1, hsm⟩))⟩, t2, t3, f2, by omega, by omega, t4, t5⟩
      · rw [if_neg hsm, if_pos (show i32 0 = 0 from rfl), if_pos (show bzb 0 = true from rfl)]
        exact ⟨τ, i32 0, T + ln (nft rq.1 rq.2 n), rfl, Or.inr ⟨rfl, fun h => by
          rcases h with h | ⟨h, _⟩ | ⟨h, _⟩ | ⟨_, _, h⟩
          · omega
          · omega
          · omega
          · exact hsm h⟩, t2, t3, f2, by omega, by omega, t4, t5⟩
    · rw [if_pos (show (-1 : Int32) = -1 from rfl), if_pos (show bzb 0 = true from rfl)]
      exact ⟨τ, i32 0, T, rfl, Or.inr ⟨rfl, fun h => by
          rcases h with h | ⟨h, _⟩ | ⟨h, _⟩ | ⟨_, h, _⟩
          · omega
          · omega
          · omega
          · exact f1 h⟩, t2, t3, f2, Nat.le_refl _, by omega, t4, t5⟩
/-- a form at a place, or -1 where it is too large -/
def plc (σ : MS) (T : Nat) (t : Tr) (n : Nat) (r : Int32) (g : Nat) : Prop := (fits t n ∧ r = i32 g ∧ fm (σ.2.1 1) t g ∧ g + ln t ≤ T) ∨ (¬ fits t n ∧ r = -1)
/-- a term that is found -/
theorem m_endsFound (hw : WL L ents tx) {σ : MS} {V E T n nd g h p : Nat} {vt : List Rq} {rq : Rq} {Ty t : Tr} {r1 r2 : Int32} (hs : RS L ents tx σ) (hv : vtOK L vt) (hn : vt.length = n) (hN : Need L σ V E T vt nd rq) (h1 : σ.1 1 = i32 T) (h19 : σ.1 19 = i32 V) (h21 : σ.1 21 = i32 E) (h46 : σ.1 46 = i32 n) (h57 : σ.1 57 = -9) (hW : fits Ty n → WT L Ty (ctx vt)) (g1 : plc σ T Ty n r1 g) (g2 : fits Ty n → plc σ T t n r2 h) (b1 : T + 60 ≤ 9400) (b2 : E ≤ 42) (b3 : V + 1300 ≤ 2400) (b4 : 20 ≤ V) (b6 : 1 ≤ E) :
    (fits Ty n ∧ fits t n ∧ Sat nd rq Ty n → ∃ τ T', f_endsFound (i32 p) r1 r2 σ = some (0, τ) ∧ kp σ τ V E T ∧ ch FE AY σ τ ∧ τ.1 1 = i32 T' ∧ T ≤ T' ∧ T' ≤ T + 50 ∧ τ.1 19 = i32 V ∧ τ.1 21 = i32 E ∧ τ.1 57 = -9 ∧ τ.1 52 = i32 2 ∧ τ.1 53 = i32 p ∧ τ.1 54 = i32 h ∧ τ.1 55 = i32 g)
    ∧ (¬ (fits Ty n ∧ fits t n ∧ Sat nd rq Ty n) → ∃ τ, f_endsFound (i32 p) r1 r2 σ = some (0, τ) ∧ kp σ τ V E T ∧ ch FE AY σ τ ∧ τ.1 57 = i32 p) := by
  have bad : ∀ (υ : MS), υ.1 57 = -9 → kp σ υ V E T → ch FE AY σ υ → ∃ τ, B_endsFound_18 B_endsFound_23 (i32 p) r1 r2 υ = some (0, τ) ∧ kp σ τ V E T ∧ ch FE AY σ τ ∧ τ.1 57 = i32 p := by
    intro υ h hk hc
    unfold B_endsFound_18 B_endsFound_23
    rw [m_fails _ h, Option.bind_some]
    refine ⟨_, rfl, kp_tr hk (kp_tr (kp_setF _ 57 _ V E T) (kp_tr (kp_setF _ 52 _ V E T) (kp_tr (kp_setF _ 53 _ V E T) (kp_tr (kp_setF _ 54 _ V E T) (kp_setF _ 55 _ V E T) (Nat.le_refl _) (Nat.le_refl _) (Nat.le_refl _)) (Nat.le_refl _) (Nat.le_refl _) (Nat.le_refl _)) (Nat.le_refl _) (Nat.le_refl _) (Nat.le_refl _)) (Nat.le_refl _) (Nat.le_refl _) (Nat.le_refl _)) (Nat.le_refl _) (Nat.le_refl _) (Nat.le_refl _), ch_tr hc (ch_tr (ch_setF _ _ (by simp [FE])) (ch_tr (ch_setF _ _ (by simp [FE])) (ch_tr (ch_setF _ _ (by simp [FE])) (ch_tr (ch_setF _ _ (by simp [FE])) (ch_setF _ _ (by simp [FE])))))), ?_⟩
    rw [setF_ne _ _ (by decide), setF_ne _ _ (by decide), setF_ne _ _ (by decide), setF_ne _ _ (by decide), setF_eq]
  unfold f_endsFound
  rcases g1 with ⟨f1, rfl, f3, f4⟩ | ⟨f1, rfl⟩
  · rw [if_neg (i_ne1 (by omega))]
    rcases g2 f1 with ⟨k1, rfl, k3, k4⟩ | ⟨k1, rfl⟩
    · rw [if_neg (i_ne1 (by omega))]
      obtain ⟨τ, b, T', e1, e2, e3, e4, e5, e6, e7, e8, e9⟩ := m_isNeeded hw hs hv hn hN h1 h19 h21 h46 (hW f1) f1.1 f3 f4 b1 b2 b3 b4 b6
      have e4' : ch FE AY σ τ := ch_mo e4 (by simp [FE, FY]) (fun _ h => h)
      have t57 : τ.1 57 = -9 := by rw [e4.1 57 (by simp [FY])]; exact h57
      rw [e1, Option.bind_some]
      dsimp only
      rcases e2 with ⟨rfl, hsat⟩ | ⟨rfl, hsat⟩
      · rw [if_neg (show ¬ (i32 1 = 0) from by decide)]
        refine ⟨fun _ => ?_, fun h => absurd ⟨f1, k1, hsat⟩ h⟩
        unfold B_endsFound_23
        refine ⟨_, T', rfl, kp_tr e3 (kp_tr (kp_setF _ 52 _ V E T) (kp_tr (kp_setF _ 53 _ V E T) (kp_tr (kp_setF _ 54 _ V E T) (kp_setF _ 55 _ V E T) (Nat.le_refl _) (Nat.le_refl _) (Nat.le_refl _)) (Nat.le_refl _) (Nat.le_refl _) (Nat.le_refl _)) (Nat.le_refl _) (Nat.le_refl _) (Nat.le_refl _)) (Nat.le_refl _) (Nat.le_refl _) (Nat.le_refl _), ch_tr e4' (ch_tr (ch_setF _ _ (by simp [FE])) (ch_tr (ch_setF _ _ (by simp [FE])) (ch_tr (ch_setF _ _ (by simp [FE])) (ch_setF _ _ (by simp [FE]))))), ?_, e6, e7, ?_, ?_, ?_, ?_, ?_, ?_, ?_⟩
        · rw [setF_ne _ _ (by decide), setF_ne _ _ (by decide), setF_ne _ _ (by decide), setF_ne _ _ (by decide)]; exact e5
        · rw [setF_ne _ _ (by decide), setF_ne _ _ (by decide), setF_ne _ _ (by decide), setF_ne _ _ (by decide)]; exact e8
        · rw [setF_ne _ _ (by decide), setF_ne _ _ (by decide), setF_ne _ _ (by decide), setF_ne _ _ (by decide)]; exact e9
        · rw [setF_ne _ _ (by decide), setF_ne _ _ (by decide), setF_ne _ _ (by decide), setF_ne _ _ (by decide)]; exact t57
        · rw [setF_ne _ _ (by decide), setF_ne _ _ (by decide), setF_ne _ _ (by decide), setF_eq]; rfl
        · rw [setF_ne _ _ (by decide), setF_ne _ _ (by decide), setF_eq]
        · rw [setF_ne _ _ (by decide), setF_eq]
        · rw [setF_eq]
      · rw [if_pos (show i32 0 = 0 from rfl)]
        exact ⟨fun h => absurd h.2.2 hsat, fun _ => bad τ t57 e3 e4'⟩
    · rw [if_pos rfl]
      exact ⟨fun h => absurd h.2.1 k1, fun _ => bad σ h57 (kp_rf _ _ _ _) (ch_rf _ _ _)⟩
  · rw [if_pos rfl]
    exact ⟨fun h => absurd h.1 f1, fun _ => bad σ h57 (kp_rf _ _ _ _) (ch_rf _ _ _)⟩
end MREAD1

set_option maxRecDepth 20000 in
theorem fw_10_2 : fW 10 2 (.object "JudgedTerms$Laws") := ⟨RX10, TX10, 9, tyX10, rfl, tyX10_ok, nmX10, rfl, by decide +kernel⟩
set_option maxRecDepth 20000 in
theorem oi_1_3 : Cond.methodLink RX1 3 objectInit ∈ tg := tg_at 701 (by decide +kernel) rfl
set_option maxRecDepth 20000 in
theorem oi_1 : Cond.instanceMethod objectInit ∈ tg := tg_at 119 (by decide +kernel) rfl
set_option maxRecDepth 20000 in
theorem oi_2 : Cond.code objectInit ⟨#[0xb1]⟩ 1 none ∈ tg := tg_at 120 (by decide +kernel) rfl
set_option maxRecDepth 20000 in
theorem ff_1_0 : fF 1 0 (.array .int) := ⟨RX1, TX1, 1, tyX1, rfl, tyX1_ok, nmX1, rfl, by decide +kernel⟩
set_option maxRecDepth 20000 in
theorem oi_0_1 : Cond.methodLink RX0 1 objectInit ∈ tg := tg_at 812 (by decide +kernel) rfl
set_option maxRecDepth 20000 in
theorem ff_0_0 : fF 0 0 (.object "JudgedTerms$Form") := ⟨RX0, TX0, 2, tyX0, rfl, tyX0_ok, nmX0, rfl, by decide +kernel⟩
set_option maxRecDepth 20000 in
theorem ff_0_1 : fF 0 1 (.object "JudgedTerms$Form") := ⟨RX0, TX0, 2, tyX0, rfl, tyX0_ok, nmX0, rfl, by decide +kernel⟩
set_option maxRecDepth 20000 in
theorem oi_3_3 : Cond.methodLink RX3 3 objectInit ∈ tg := tg_at 126 (by decide +kernel) rfl
set_option maxRecDepth 20000 in
theorem cl_3_9 : Cond.classLink RX3 9 RX1 ∈ tg := tg_at 127 (by decide +kernel) rfl
set_option maxRecDepth 20000 in
theorem ao_1 : Cond.arrayOver (.object RX1) ∈ nws := nws_at 128 (by decide +kernel) rfl
set_option maxRecDepth 20000 in
theorem ff_3_0 : fF 3 0 (.array (.object "JudgedTerms$Form")) := ⟨RX3, TX3, 4, tyX3, rfl, tyX3_ok, nmX3, rfl, by decide +kernel⟩
set_option maxRecDepth 20000 in
theorem ff_3_1 : fF 3 1 (.array (.object "JudgedTerms$Form")) := ⟨RX3, TX3, 4, tyX3, rfl, tyX3_ok, nmX3, rfl, by decide +kernel⟩
set_option maxRecDepth 20000 in
theorem oi_5_3 : Cond.methodLink RX5 3 objectInit ∈ tg := tg_at 152 (by decide +kernel) rfl
set_option maxRecDepth 20000 in
theorem cl_5_9 : Cond.classLink RX5 9 RX0 ∈ tg := tg_at 153 (by decide +kernel) rfl
set_option maxRecDepth 20000 in
theorem ao_0 : Cond.arrayOver (.object RX0) ∈ nws := nws_at 154 (by decide +kernel) rfl
set_option maxRecDepth 20000 in
theorem ff_5_0 : fF 5 0 (.array (.object "JudgedTerms$Entry")) := ⟨RX5, TX5, 2, tyX5, rfl, tyX5_ok, nmX5, rfl, by decide +kernel⟩
set_option maxRecDepth 20000 in
theorem cl_7_72 : Cond.classLink RX7 72 RX1 ∈ tg := tg_at 696 (by decide +kernel) rfl
set_option maxRecDepth 20000 in
theorem in_1 : Cond.instantiable RX1 1 ∈ tg := tg_at 697 (by decide +kernel) rfl
set_option maxRecDepth 20000 in
theorem ini_1 : Cond.initialized RX1 ∈ tg := tg_at 108 (by decide +kernel) rfl
set_option maxRecDepth 20000 in
theorem df_1 : ∀ j, j < 1 → defaultValue (tyX1 j) = vp_V ((List.range (nfl 1)).map (fun k => if isR 1 k = true then Value.null else .int 0)) j := fun j hj => by
  rcases (show j = 0 by omega) with rfl <;> rfl
set_option maxRecDepth 20000 in
theorem ml_7_74 : Cond.methodLink RX7 74 yX1_init ∈ tg := tg_at 698 (by decide +kernel) rfl
set_option maxRecDepth 20000 in
theorem hYI_1 : vYI yX1_init cX1_init 2 1 := ⟨tg_at 699 (by decide +kernel) rfl, tg_at 108 (by decide +kernel) rfl, tg_at 700 (by rfl) rfl, rfl, by decide, by decide, by decide +kernel⟩
set_option maxRecDepth 20000 in
theorem ml_7_77 : Cond.methodLink RX7 77 yJ7_copyOfRange_feecc ∈ tg := tg_at 707 (by decide +kernel) rfl
set_option maxRecDepth 20000 in
theorem cl_4_86 : Cond.classLink RX4 86 RX0 ∈ tg := tg_at 806 (by decide +kernel) rfl
set_option maxRecDepth 20000 in
theorem in_0 : Cond.instantiable RX0 2 ∈ tg := tg_at 807 (by decide +kernel) rfl
set_option maxRecDepth 20000 in
theorem ini_0 : Cond.initialized RX0 ∈ tg := tg_at 112 (by decide +kernel) rfl
set_option maxRecDepth 20000 in
theorem df_0 : ∀ j, j < 2 → defaultValue (tyX0 j) = vp_V ((List.range (nfl 0)).map (fun k => if isR 0 k = true then Value.null else .int 0)) j := fun j hj => by
  rcases (show j = 0 ∨ j = 1 by omega) with rfl | rfl <;> rfl
set_option maxRecDepth 20000 in
theorem ml_4_88 : Cond.methodLink RX4 88 yX7_keptForm ∈ tg := tg_at 808 (by decide +kernel) rfl
set_option maxRecDepth 20000 in
theorem hY_Signs_keptForm : vY RX7 yX7_keptForm cX7_keptForm 3 (some (.object "JudgedTerms$Form")) 1 := ⟨tg_at 693 (by decide +kernel) rfl, tg_at 694 (by decide +kernel) rfl, tg_at 103 (by decide +kernel) rfl, tg_at 695 (by rfl) rfl, rfl, by decide, by decide, by decide +kernel⟩
set_option maxRecDepth 20000 in
theorem ml_4_92 : Cond.methodLink RX4 92 yX0_init ∈ tg := tg_at 809 (by decide +kernel) rfl
set_option maxRecDepth 20000 in
theorem hYI_0 : vYI yX0_init cX0_init 3 2 := ⟨tg_at 810 (by decide +kernel) rfl, tg_at 112 (by decide +kernel) rfl, tg_at 811 (by rfl) rfl, rfl, by decide, by decide, by decide +kernel⟩
set_option maxRecDepth 20000 in
theorem ml_7_54 : Cond.methodLink RX7 54 yX7_keptForm ∈ tg := tg_at 692 (by decide +kernel) rfl
set_option maxRecDepth 20000 in
theorem cl_7_32 : Cond.classLink RX7 32 RX3 ∈ tg := tg_at 690 (by decide +kernel) rfl
set_option maxRecDepth 20000 in
theorem in_3 : Cond.instantiable RX3 4 ∈ tg := tg_at 122 (by decide +kernel) rfl
set_option maxRecDepth 20000 in
theorem ini_3 : Cond.initialized RX3 ∈ tg := tg_at 99 (by decide +kernel) rfl
set_option maxRecDepth 20000 in
theorem df_3 : ∀ j, j < 4 → defaultValue (tyX3 j) = vp_V ((List.range (nfl 3)).map (fun k => if isR 3 k = true then Value.null else .int 0)) j := fun j hj => by
  rcases (show j = 0 ∨ j = 1 ∨ j = 2 ∨ j = 3 by omega) with rfl | rfl | rfl | rfl <;> rfl
set_option maxRecDepth 20000 in
theorem ml_7_53 : Cond.methodLinkNest RX7 53 yX3_init "JudgedTerms" ∈ nws := nws_at 691 (by decide +kernel) rfl
set_option maxRecDepth 20000 in
theorem hYI_3 : vYI yX3_init cX3_init 1 0 := ⟨tg_at 124 (by decide +kernel) rfl, tg_at 99 (by decide +kernel) rfl, tg_at 125 (by rfl) rfl, rfl, by decide, by decide, by decide +kernel⟩
set_option maxRecDepth 20000 in
theorem ml_10_154 : Cond.methodLink RX10 154 yX4_entryRead ∈ tg := tg_at 802 (by decide +kernel) rfl
set_option maxRecDepth 20000 in
theorem hY_Reader_entryRead : vY RX4 yX4_entryRead cX4_entryRead 1 (some (.object "JudgedTerms$Entry")) 0 := ⟨tg_at 803 (by decide +kernel) rfl, tg_at 804 (by decide +kernel) rfl, tg_at 105 (by decide +kernel) rfl, tg_at 805 (by rfl) rfl, rfl, by decide, by decide, by decide +kernel⟩
set_option maxRecDepth 20000 in
theorem ml_10_93 : Cond.methodLink RX10 93 yX7_declared ∈ tg := tg_at 686 (by decide +kernel) rfl
set_option maxRecDepth 20000 in
theorem hY_Signs_declared : vY RX7 yX7_declared cX7_declared 3 (some (.object "JudgedTerms$Laws")) 0 := ⟨tg_at 687 (by decide +kernel) rfl, tg_at 688 (by decide +kernel) rfl, tg_at 103 (by decide +kernel) rfl, tg_at 689 (by rfl) rfl, rfl, by decide, by decide, by decide +kernel⟩
set_option maxRecDepth 20000 in
theorem cl_10_13 : Cond.classLink RX10 13 RX3 ∈ tg := tg_at 121 (by decide +kernel) rfl
set_option maxRecDepth 20000 in
theorem ml_10_15 : Cond.methodLinkNest RX10 15 yX3_init "JudgedTerms" ∈ nws := nws_at 123 (by decide +kernel) rfl
set_option maxRecDepth 20000 in
theorem cl_10_20 : Cond.classLink RX10 20 RX5 ∈ tg := tg_at 147 (by decide +kernel) rfl
set_option maxRecDepth 20000 in
theorem in_5 : Cond.instantiable RX5 2 ∈ tg := tg_at 148 (by decide +kernel) rfl
set_option maxRecDepth 20000 in
theorem ini_5 : Cond.initialized RX5 ∈ tg := tg_at 100 (by decide +kernel) rfl
set_option maxRecDepth 20000 in
theorem df_5 : ∀ j, j < 2 → defaultValue (tyX5 j) = vp_V ((List.range (nfl 5)).map (fun k => if isR 5 k = true then Value.null else .int 0)) j := fun j hj => by
  rcases (show j = 0 ∨ j = 1 by omega) with rfl | rfl <;> rfl
set_option maxRecDepth 20000 in
theorem ml_10_22 : Cond.methodLinkNest RX10 22 yX5_init "JudgedTerms" ∈ nws := nws_at 149 (by decide +kernel) rfl
set_option maxRecDepth 20000 in
theorem hYI_5 : vYI yX5_init cX5_init 1 0 := ⟨tg_at 150 (by decide +kernel) rfl, tg_at 100 (by decide +kernel) rfl, tg_at 151 (by rfl) rfl, rfl, by decide, by decide, by decide +kernel⟩
set_option maxRecDepth 20000 in
theorem ml_7_57 : Cond.methodLink RX7 57 yX3_addFamily ∈ tg := tg_at 729 (by decide +kernel) rfl
set_option maxRecDepth 20000 in
theorem ml_7_60 : Cond.methodLink RX7 60 yX3_addConstant ∈ tg := tg_at 733 (by decide +kernel) rfl
set_option maxRecDepth 20000 in
theorem ml_10_79 : Cond.methodLink RX10 79 yX4_hasMore ∈ tg := tg_at 418 (by decide +kernel) rfl
set_option maxRecDepth 20000 in
theorem ml_10_83 : Cond.methodLink RX10 83 yX4_readItem ∈ tg := tg_at 422 (by decide +kernel) rfl
set_option maxRecDepth 20000 in
theorem ml_10_97 : Cond.methodLink RX10 97 yX5_empty ∈ tg := tg_at 737 (by decide +kernel) rfl
set_option maxRecDepth 20000 in
theorem ml_10_158 : Cond.methodLink RX10 158 yX5_add ∈ tg := tg_at 824 (by decide +kernel) rfl
set_option maxRecDepth 20000 in
theorem ml_10_188 : Cond.methodLink RX10 188 yX6_add ∈ tg := tg_at 866 (by decide +kernel) rfl
theorem un0 {α : Type} {f : Nat → Option α} {n m : Nat} {q : α} (e : n = m) (h : (f n) = some q) : f m = some q := by subst e; exact h
theorem c_copyC {l : Launch} {D : va_G} {cy : Nat → ClassId} {ad : Nat → Nat} (hA : adOK ad) (f t : Int32) (h : cpok f t = true) (σ : CS) : MVA l D cy ad yJ7_copyOfRange_feecc cJ7_copyOfRange_feecc 3 (some (.array .int)) 3 70 1 50 [.ref (ad 35), .int f, .int t] σ (some (va_rf (Option.map ad (some (49 + ndC σ))))) (cpC σ f.toNatClampNeg (t.toNatClampNeg - f.toNatClampNeg)) := by
  obtain ⟨a, b, rfl, rfl, h1, h2, h3⟩ := cpok_of h
  rw [nI_clamp (show a < 2 ^ 31 by omega), nI_clamp (show b < 2 ^ 31 by omega)]
  exact c_copy hA a b h1 h2 h3 σ
def f_Form_init (t : Nat) (x1 : Option Nat) (σ : CS) : Option (Int32 × CS) := if decide (49 ≤ t) then if okc σ t 1 then some (0, (sR σ t 0 x1)) else none else none
def f_Entry_init (t : Nat) (x1 : Option Nat) (x2 : Option Nat) (σ : CS) : Option (Int32 × CS) := if decide (49 ≤ t) then if okc σ t 0 then if decide (49 ≤ t) then if okc (sR σ t 0 x1) t 0 then some (0, (sR (sR σ t 0 x1) t 1 x2)) else none else none else none else none
def f_Laws_init (t : Nat) (σ : CS) : Option (Int32 × CS) := if decide (49 ≤ t) then if okc (nwC σ 16 3) t 3 then if decide (49 ≤ t) then if okc (nwC (sR (nwC σ 16 3) t 0 (some (49 + ndC σ))) 16 4) t 3 then some (0, (sR (nwC (sR (nwC σ 16 3) t 0 (some (49 + ndC σ))) 16 4) t 1 (some (49 + ndC (sR (nwC σ 16 3) t 0 (some (49 + ndC σ))))))) else none else none else none else none
def f_Shelf_init (t : Nat) (σ : CS) : Option (Int32 × CS) := if decide (49 ≤ t) then if okc (nwC σ 15 6) t 5 then some (0, (sR (nwC σ 15 6) t 0 (some (49 + ndC σ)))) else none else none
def B_Signs_keptForm_22 (n0 : Nat) (σ : CS) : Option ((Option Nat) × CS) := (f_Form_init (49 + ndC σ) (some (49 + ndC (nwC σ 1 0))) (nwC (nwC σ 1 0) 12 0)).bind fun q1 => if (ndC q1.2 == ndC (nwC (nwC σ 1 0) 12 0) + 0) then some ((some (49 + ndC σ)), q1.2) else none
def g_Signs_keptForm (n0 : Nat) (x1 : Int32) (σ : CS) : Option ((Option Nat) × CS) := (f_Signs_behind x1 σ).bind fun q1 => if (ndC q1.2 == ndC σ) then (if x1 < 0 then (B_Signs_keptForm_22 n0) q1.2 else (if q1.1 < x1 then (B_Signs_keptForm_22 n0) q1.2 else (if q1.1 ≤ 3600 then if cpok x1 q1.1 then (f_Form_init (49 + ndC q1.2) (some (49 + ndC (nwC q1.2 1 0))) (cpC (nwC q1.2 1 0) (x1 : Int32).toNatClampNeg ((q1.1 : Int32).toNatClampNeg - (x1 : Int32).toNatClampNeg))).bind fun q2 => if (ndC q2.2 == ndC (cpC (nwC q1.2 1 0) (x1 : Int32).toNatClampNeg ((q1.1 : Int32).toNatClampNeg - (x1 : Int32).toNatClampNeg)) + 0) then some ((some (49 + ndC q1.2)), q2.2) else none else none else (B_Signs_keptForm_22 n0) q1.2))) else none
def f_Signs_keptForm (x1 : Int32) (σ : CS) : Option ((Option Nat) × CS) := g_Signs_keptForm (ndC σ) x1 σ
def f_Reader_entryRead (σ : CS) : Option ((Option Nat) × CS) := (f_Signs_keptForm ((nwC σ 0 0).1 43 12) (nwC σ 0 0)).bind fun q1 => if (ndC q1.2 == ndC (nwC σ 0 0) + 2) then (f_Signs_keptForm (q1.2.1 43 13) q1.2).bind fun q2 => if (ndC q2.2 == ndC q1.2 + 2) then (f_Entry_init (49 + ndC σ) q1.1 q2.1 q2.2).bind fun q3 => if (ndC q3.2 == ndC q2.2 + 0) then some ((some (49 + ndC σ)), q3.2) else none else none else none
def B_Signs_declared_48 (n0 : Nat) (k10 : (Option Nat) → Int32 → CS → Option ((Option Nat) × CS)) (x1 : Option Nat) (x2 : Int32) (s0 : Option Nat) (s1 : Option Nat) (σ : CS) : Option ((Option Nat) × CS) := (s1).bind fun a1 => if okc σ a1 3 then if decide (ndC σ ≤ n0 + 17) then (f_Laws_addFamily a1 s0 σ).bind fun q1 => if (ndC q1.2 == ndC σ) then k10 x1 (x2 + 1) q1.2 else none else none else none
def B_Signs_declared_92 (n0 : Nat) (x1 : Option Nat) (σ : CS) : Option ((Option Nat) × CS) := if decide (ndC σ ≤ n0 + 17) then some (x1, σ) else none
def L_Signs_declared_59 (n0 : Nat) : Nat → (Option Nat) → Int32 → CS → Option ((Option Nat) × CS)
  | 0, _, _, _ => none
  | n + 1, x1, x2, σ => (if (σ.1 34 5) ≤ x2 then (B_Signs_declared_92 n0) x1 σ else (if 4 ≤ x2 then (B_Signs_declared_92 n0) x1 σ else if ix x2 (lS 37) then (f_Signs_keptForm (σ.1 37 (x2 : Int32).toNatClampNeg) σ).bind fun q1 => if (ndC q1.2 == ndC σ + 2) then if decide (ndC σ + 2 ≤ n0 + 17) then (x1).bind fun a1 => if okc q1.2 a1 3 then if decide (ndC q1.2 ≤ n0 + 17) then (f_Laws_addConstant a1 q1.1 q1.2).bind fun q2 => if (ndC q2.2 == ndC q1.2) then (L_Signs_declared_59 n0 n) (some a1) (x2 + 1) q2.2 else none else none else none else none else none else none))
def B_Signs_declared_57 (n0 : Nat) (x1 : Option Nat) (σ : CS) : Option ((Option Nat) × CS) := (L_Signs_declared_59 n0 10000) x1 0 σ
def L_Signs_declared_10 (n0 : Nat) : Nat → (Option Nat) → Int32 → CS → Option ((Option Nat) × CS)
  | 0, _, _, _ => none
  | n + 1, x1, x2, σ => (if (σ.1 34 3) ≤ x2 then (B_Signs_declared_57 n0) x1 σ else (if 3 ≤ x2 then (B_Signs_declared_57 n0) x1 σ else if ix x2 (lS 36) then (if (σ.1 36 (x2 : Int32).toNatClampNeg) = (-1) then (B_Signs_declared_48 n0 (L_Signs_declared_10 n0 n)) x1 x2 none x1 σ else if ix x2 (lS 36) then (f_Signs_keptForm (σ.1 36 (x2 : Int32).toNatClampNeg) σ).bind fun q1 => if (ndC q1.2 == ndC σ + 2) then if decide (ndC σ + 2 ≤ n0 + 17) then (B_Signs_declared_48 n0 (L_Signs_declared_10 n0 n)) x1 x2 q1.1 x1 q1.2 else none else none else none) else none))
def g_Signs_declared (n0 : Nat) (σ : CS) : Option ((Option Nat) × CS) := (f_Laws_init (49 + ndC σ) (nwC σ 3 0)).bind fun q1 => if (ndC q1.2 == ndC (nwC σ 3 0) + 2) then (L_Signs_declared_10 n0 10000) (some (49 + ndC σ)) 0 q1.2 else none
def f_Signs_declared (σ : CS) : Option ((Option Nat) × CS) := g_Signs_declared (ndC σ) σ
def f_J_enters (σ : CS) : Option (Int32 × CS) := (if (σ.1 5 1) < 6 then (f_Reader_begin (some 1) (σ.1 0 1) (rfv σ 0 2) (some 5) σ).bind fun q1 => if (ndC q1.2 == ndC σ) then (f_Reader_readGiven q1.2).bind fun q2 => if (ndC q2.2 == ndC q1.2) then (if q2.1 = 0 then some (((-10) - (q2.2.1 43 8)), q2.2) else (f_History_note (some 5) q2.2).bind fun q3 => if (ndC q3.2 == ndC q2.2) then (f_Reader_entryRead q3.2).bind fun q4 => if (ndC q4.2 == ndC q3.2 + 5) then (f_Shelf_add 5 q4.1 q4.2).bind fun q5 => if (ndC q5.2 == ndC q4.2) then some (((sI q5.2 0 1 0).1 5 1), (sI q5.2 0 1 0)) else none else none else none) else none else none else some ((-3), σ))
def B_J_sees_9 (n0 : Nat) (σ : CS) : Option (Int32 × CS) := some ((-1), σ)
def g_J_sees (n0 : Nat) (x1 : Int32) (σ : CS) : Option (Int32 × CS) := (if x1 < 0 then (B_J_sees_9 n0) σ else (if x1 ≤ 2 then (if (σ.1 25 2) < 4 then (f_Reader_begin (some 1) (σ.1 0 1) (rfv σ 0 2) (some 5) σ).bind fun q1 => if (ndC q1.2 == ndC σ) then (f_Reader_readGiven q1.2).bind fun q2 => if (ndC q2.2 == ndC q1.2) then (if q2.1 = 0 then some (((-10) - (q2.2.1 43 8)), q2.2) else (f_Reader_entryRead q2.2).bind fun q3 => if (ndC q3.2 == ndC q2.2 + 5) then (f_Sights_add q3.1 x1 q3.2).bind fun q4 => if (ndC q4.2 == ndC q3.2) then some (((sI q4.2 0 1 0).1 25 2), (sI q4.2 0 1 0)) else none else none) else none else none else some ((-3), σ)) else (B_J_sees_9 n0) σ))
def f_J_sees (x1 : Int32) (σ : CS) : Option (Int32 × CS) := g_J_sees (ndC σ) x1 σ
def L_J_laws_111 (n0 : Nat) : Nat → Int32 → Int32 → CS → Option (Int32 × CS)
  | 0, _, _, _ => none
  | n + 1, x1, x2, σ => (if 2 ≤ x2 then if decide (ndC σ ≤ n0 + 22) then some (x1, (sI σ 0 1 0)) else none else if ix x2 (lS 29) then (L_J_laws_111 n0 n) x1 (x2 + 1) (sI σ 29 (x2 : Int32).toNatClampNeg 0) else none)
def B_J_laws_74 (n0 : Nat) (x1 : Int32) (σ : CS) : Option (Int32 × CS) := (f_Signs_declared σ).bind fun q1 => if decide (ndC σ ≤ ndC q1.2) then if decide (ndC q1.2 ≤ n0 + 22) then (f_Shelf_empty 5 (sR q1.2 0 2 q1.1)).bind fun q2 => if (ndC q2.2 == ndC q1.2) then if decide (ndC q2.2 ≤ n0 + 22) then (f_History_empty q2.2).bind fun q3 => if (ndC q3.2 == ndC q2.2) then if decide (ndC q3.2 ≤ n0 + 22) then (f_Sights_empty q3.2).bind fun q4 => if (ndC q4.2 == ndC q3.2) then (L_J_laws_111 n0 10000) x1 0 q4.2 else none else none else none else none else none else none else none
def L_J_laws_31 (n0 : Nat) : Nat → Int32 → CS → Option (Int32 × CS)
  | 0, _, _ => none
  | n + 1, x1, σ => (if 32 ≤ x1 then (B_J_laws_74 n0) x1 σ else (f_Reader_hasMore σ).bind fun q1 => if (ndC q1.2 == ndC σ) then (if q1.1 = 0 then (B_J_laws_74 n0) x1 q1.2 else (f_Reader_readItem q1.2).bind fun q2 => if (ndC q2.2 == ndC q1.2) then (if q2.1 = 0 then some (((-10) - (q2.2.1 43 8)), q2.2) else (L_J_laws_31 n0 n) (x1 + 1) q2.2) else none) else none)
def g_J_laws (n0 : Nat) (σ : CS) : Option (Int32 × CS) := (f_Laws_init (49 + ndC σ) (nwC σ 3 0)).bind fun q1 => if (ndC q1.2 == ndC (nwC σ 3 0) + 2) then (f_Shelf_init (49 + ndC q1.2) (nwC q1.2 5 0)).bind fun q2 => if (ndC q2.2 == ndC (nwC q1.2 5 0) + 1) then (f_Reader_begin (some 1) (σ.1 0 1) (some (49 + ndC σ)) (some (49 + ndC q1.2)) q2.2).bind fun q3 => if (ndC q3.2 == ndC q2.2) then (L_J_laws_31 n0 10000) 0 q3.2 else none else none else none
def f_J_laws (σ : CS) : Option (Int32 × CS) := g_J_laws (ndC σ) σ

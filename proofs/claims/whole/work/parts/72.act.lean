/-! act: the bodies that run -/
def q_runO (own nu tv : Int32) (K : Int32 → Int32 → Nat) (P : AF) (kind act9 xx : Int32) (rn : Nat) (bo : Nat → Int32) : Int32 × Nat × (Nat → Int32) := if (f_holder kind act9) < 0 then (0, rn, bo) else if (tBod (((f_holder kind act9) * 3) + act9).toNatClampNeg) = 1 then (xx + nu, (rn + 1), (q_begin (tBod (((f_holder kind act9) * 3) + act9).toNatClampNeg) rn bo).2) else if (tBod (((f_holder kind act9) * 3) + act9).toNatClampNeg) = 2 then (match P own 0 xx (rn + 1) ((q_begin (tBod (((f_holder kind act9) * 3) + act9).toNatClampNeg) rn bo).2) with | (r_0, bo_0) => (r_0 - tv, ((rn + 1) + K own 0), bo_0)) else if (tBod (((f_holder kind act9) * 3) + act9).toNatClampNeg) = 3 then (match P own 1 xx (rn + 1) ((q_begin (tBod (((f_holder kind act9) * 3) + act9).toNatClampNeg) rn bo).2) with | (r_0, bo_0) => (r_0 * 2, ((rn + 1) + K own 1), bo_0)) else if (tBod (((f_holder kind act9) * 3) + act9).toNatClampNeg) = 11 then (match P (tAbv (f_holder kind act9).toNatClampNeg) 0 (xx * 3) (rn + 1) ((q_begin (tBod (((f_holder kind act9) * 3) + act9).toNatClampNeg) rn bo).2) with | (r_0, bo_0) => (r_0, ((rn + 1) + K (tAbv (f_holder kind act9).toNatClampNeg) 0), bo_0)) else if (tBod (((f_holder kind act9) * 3) + act9).toNatClampNeg) = 21 then (match P (tAbv (f_holder kind act9).toNatClampNeg) 1 xx (rn + 1) ((q_begin (tBod (((f_holder kind act9) * 3) + act9).toNatClampNeg) rn bo).2) with | (r_0, bo_0) => (-r_0, ((rn + 1) + K (tAbv (f_holder kind act9).toNatClampNeg) 1), bo_0)) else if (tBod (((f_holder kind act9) * 3) + act9).toNatClampNeg) = 31 then (match P (tAbv (f_holder kind act9).toNatClampNeg) 2 xx (rn + 1) ((q_begin (tBod (((f_holder kind act9) * 3) + act9).toNatClampNeg) rn bo).2) with | (r_0, bo_0) => (r_0 ^^^ 7, ((rn + 1) + K (tAbv (f_holder kind act9).toNatClampNeg) 2), bo_0)) else if (tBod (((f_holder kind act9) * 3) + act9).toNatClampNeg) = 41 then (match P (tAbv (f_holder kind act9).toNatClampNeg) 2 (xx - 1) (rn + 1) ((q_begin (tBod (((f_holder kind act9) * 3) + act9).toNatClampNeg) rn bo).2) with | (r_0, bo_0) => (match P own 0 2 ((rn + 1) + K (tAbv (f_holder kind act9).toNatClampNeg) 2) bo_0 with | (r_1, bo_1) => (r_0 + r_1, (((rn + 1) + K (tAbv (f_holder kind act9).toNatClampNeg) 2) + K own 0), bo_1))) else if (tBod (((f_holder kind act9) * 3) + act9).toNatClampNeg) = 51 then (match P (tAbv (f_holder kind act9).toNatClampNeg) 0 xx (rn + 1) ((q_begin (tBod (((f_holder kind act9) * 3) + act9).toNatClampNeg) rn bo).2) with | (r_0, bo_0) => (r_0 ^^^ nu, ((rn + 1) + K (tAbv (f_holder kind act9).toNatClampNeg) 0), bo_0)) else if (tBod (((f_holder kind act9) * 3) + act9).toNatClampNeg) = 61 then (match P (tAbv (f_holder kind act9).toNatClampNeg) 1 xx (rn + 1) ((q_begin (tBod (((f_holder kind act9) * 3) + act9).toNatClampNeg) rn bo).2) with | (r_0, bo_0) => (r_0 + tv, ((rn + 1) + K (tAbv (f_holder kind act9).toNatClampNeg) 1), bo_0)) else (0, (rn + 1), (q_begin (tBod (((f_holder kind act9) * 3) + act9).toNatClampNeg) rn bo).2)
theorem runSO (wd : WT) (li : Nat) (K : Int32 → Int32 → Nat) (P : AF) (kind act9 xx : Int32) (rn : Nat) (bo : Nat → Int32) : q_runS wd li K P kind act9 xx rn bo = q_runO (lKind (wLw wd li)) (lNum (wLw wd li)) (lV (wLw wd li)) K P kind act9 xx rn bo := rfl
def runO (own nu tv : Int32) : Nat → AF
  | 0 => fun _ _ _ _ bo => (0, bo)
  | d + 1 => fun kind act9 xx rn bo => ((q_runO own nu tv (f_runK own d) (runO own nu tv d) kind act9 xx rn bo).1, (q_runO own nu tv (f_runK own d) (runO own nu tv d) kind act9 xx rn bo).2.2)
theorem runO_s (own nu tv : Int32) (d : Nat) (kind act9 xx : Int32) (rn : Nat) (bo : Nat → Int32) : runO own nu tv (d + 1) kind act9 xx rn bo = ((q_runO own nu tv (f_runK own d) (runO own nu tv d) kind act9 xx rn bo).1, (q_runO own nu tv (f_runK own d) (runO own nu tv d) kind act9 xx rn bo).2.2) := rfl
theorem runO_eq (wd : WT) (li : Nat) : ∀ d, f_runP wd li d = runO (lKind (wLw wd li)) (lNum (wLw wd li)) (lV (wLw wd li)) d
  | 0 => rfl
  | d + 1 => by
    have ih := runO_eq wd li d
    funext kind act9 xx rn bo
    show ((q_runS wd li (f_runK (lKind (wLw wd li)) d) (f_runP wd li d) kind act9 xx rn bo).1, (q_runS wd li (f_runK (lKind (wLw wd li)) d) (f_runP wd li d) kind act9 xx rn bo).2.2) = _
    rw [ih, runSO, runO_s]
/-- a body begins -/
def bg9 (b : Int32) (rn : Nat) (bo : Nat → Int32) : Nat → Int32 := (q_begin b rn bo).2
theorem runs_v (ki nu tv b : Int32) (ra : Nat) (bo : Nat → Int32) : r_runs ki nu tv b ra bo = (ra + 1, bg9 b ra bo) := by
  unfold r_runs bg9 q_begin
  split <;> rfl
theorem trB {n : Nat} {f g : Nat → Int32} (h : trR9 n f g) (hn : n ≤ 50) (b : Int32) : trR9 (n + 1) (bg9 b n f) (bg9 b n g) := by
  unfold bg9 q_begin
  intro j hj h20
  by_cases q : 20 ≤ n
  · rw [if_pos (show (20 : Int32) ≤ nI n from nI_le (a := 20) q (by omega)), if_pos (show (20 : Int32) ≤ nI n from nI_le (a := 20) q (by omega))]
    exact h j (by omega) h20
  · rw [if_neg (show ¬ (20 : Int32) ≤ nI n from nI_ge (b := 20) (by omega) (by decide)), if_neg (show ¬ (20 : Int32) ≤ nI n from nI_ge (b := 20) (by omega) (by decide)), nI_clamp (by omega)]
    by_cases z : j = n
    · subst z; exact pk_us.trans pk_us.symm
    · exact (pk_un z).trans ((h j (by omega) h20).trans (pk_un z).symm)
theorem qO_1 {own nu tv : Int32} {K : Int32 → Int32 → Nat} {P : AF} {kind act9 xx : Int32} {rn : Nat} {bo : Nat → Int32} (h : ¬ f_holder kind act9 < 0) (hb : tBod (f_holder kind act9 * 3 + act9).toNatClampNeg = 1) : q_runO own nu tv K P kind act9 xx rn bo = (xx + nu, rn + 1, bg9 1 rn bo) := by
  unfold q_runO
  rw [if_neg h, hb, if_pos rfl]
  rfl
theorem qO_2 {own nu tv : Int32} {K : Int32 → Int32 → Nat} {P : AF} {kind act9 xx : Int32} {rn : Nat} {bo : Nat → Int32} (h : ¬ f_holder kind act9 < 0) (hb : tBod (f_holder kind act9 * 3 + act9).toNatClampNeg = 2) : q_runO own nu tv K P kind act9 xx rn bo = ((P own 0 xx (rn + 1) (bg9 2 rn bo)).1 - tv, rn + 1 + K own 0, (P own 0 xx (rn + 1) (bg9 2 rn bo)).2) := by
  unfold q_runO
  rw [if_neg h, hb, if_neg (by decide), if_pos rfl]
  rfl
theorem qO_3 {own nu tv : Int32} {K : Int32 → Int32 → Nat} {P : AF} {kind act9 xx : Int32} {rn : Nat} {bo : Nat → Int32} (h : ¬ f_holder kind act9 < 0) (hb : tBod (f_holder kind act9 * 3 + act9).toNatClampNeg = 3) : q_runO own nu tv K P kind act9 xx rn bo = ((P own 1 xx (rn + 1) (bg9 3 rn bo)).1 * 2, rn + 1 + K own 1, (P own 1 xx (rn + 1) (bg9 3 rn bo)).2) := by
  unfold q_runO
  rw [if_neg h, hb, if_neg (by decide), if_neg (by decide), if_pos rfl]
  rfl
theorem qO_11 {own nu tv : Int32} {K : Int32 → Int32 → Nat} {P : AF} {kind act9 xx : Int32} {rn : Nat} {bo : Nat → Int32} (h : ¬ f_holder kind act9 < 0) (hb : tBod (f_holder kind act9 * 3 + act9).toNatClampNeg = 11) {ab : Int32} (ha : tAbv (f_holder kind act9).toNatClampNeg = ab) : q_runO own nu tv K P kind act9 xx rn bo = ((P ab 0 (xx * 3) (rn + 1) (bg9 11 rn bo)).1, rn + 1 + K ab 0, (P ab 0 (xx * 3) (rn + 1) (bg9 11 rn bo)).2) := by
  subst ha
  unfold q_runO
  rw [if_neg h, hb, if_neg (by decide), if_neg (by decide), if_neg (by decide), if_pos rfl]
  rfl
theorem qO_21 {own nu tv : Int32} {K : Int32 → Int32 → Nat} {P : AF} {kind act9 xx : Int32} {rn : Nat} {bo : Nat → Int32} (h : ¬ f_holder kind act9 < 0) (hb : tBod (f_holder kind act9 * 3 + act9).toNatClampNeg = 21) {ab : Int32} (ha : tAbv (f_holder kind act9).toNatClampNeg = ab) : q_runO own nu tv K P kind act9 xx rn bo = (-(P ab 1 xx (rn + 1) (bg9 21 rn bo)).1, rn + 1 + K ab 1, (P ab 1 xx (rn + 1) (bg9 21 rn bo)).2) := by
  subst ha
  unfold q_runO
  rw [if_neg h, hb, if_neg (by decide), if_neg (by decide), if_neg (by decide), if_neg (by decide), if_pos rfl]
  rfl
theorem qO_31 {own nu tv : Int32} {K : Int32 → Int32 → Nat} {P : AF} {kind act9 xx : Int32} {rn : Nat} {bo : Nat → Int32} (h : ¬ f_holder kind act9 < 0) (hb : tBod (f_holder kind act9 * 3 + act9).toNatClampNeg = 31) {ab : Int32} (ha : tAbv (f_holder kind act9).toNatClampNeg = ab) : q_runO own nu tv K P kind act9 xx rn bo = ((P ab 2 xx (rn + 1) (bg9 31 rn bo)).1 ^^^ 7, rn + 1 + K ab 2, (P ab 2 xx (rn + 1) (bg9 31 rn bo)).2) := by
  subst ha
  unfold q_runO
  rw [if_neg h, hb, if_neg (by decide), if_neg (by decide), if_neg (by decide), if_neg (by decide), if_neg (by decide), if_pos rfl]
  rfl
theorem qO_41 {own nu tv : Int32} {K : Int32 → Int32 → Nat} {P : AF} {kind act9 xx : Int32} {rn : Nat} {bo : Nat → Int32} (h : ¬ f_holder kind act9 < 0) (hb : tBod (f_holder kind act9 * 3 + act9).toNatClampNeg = 41) {ab : Int32} (ha : tAbv (f_holder kind act9).toNatClampNeg = ab) : q_runO own nu tv K P kind act9 xx rn bo = ((P ab 2 (xx - 1) (rn + 1) (bg9 41 rn bo)).1 + (P own 0 2 (rn + 1 + K ab 2) (P ab 2 (xx - 1) (rn + 1) (bg9 41 rn bo)).2).1, rn + 1 + K ab 2 + K own 0, (P own 0 2 (rn + 1 + K ab 2) (P ab 2 (xx - 1) (rn + 1) (bg9 41 rn bo)).2).2) := by
  subst ha
  unfold q_runO
  rw [if_neg h, hb, if_neg (by decide), if_neg (by decide), if_neg (by decide), if_neg (by decide), if_neg (by decide), if_neg (by decide), if_pos rfl]
  rfl
theorem qO_51 {own nu tv : Int32} {K : Int32 → Int32 → Nat} {P : AF} {kind act9 xx : Int32} {rn : Nat} {bo : Nat → Int32} (h : ¬ f_holder kind act9 < 0) (hb : tBod (f_holder kind act9 * 3 + act9).toNatClampNeg = 51) {ab : Int32} (ha : tAbv (f_holder kind act9).toNatClampNeg = ab) : q_runO own nu tv K P kind act9 xx rn bo = ((P ab 0 xx (rn + 1) (bg9 51 rn bo)).1 ^^^ nu, rn + 1 + K ab 0, (P ab 0 xx (rn + 1) (bg9 51 rn bo)).2) := by
  subst ha
  unfold q_runO
  rw [if_neg h, hb, if_neg (by decide), if_neg (by decide), if_neg (by decide), if_neg (by decide), if_neg (by decide), if_neg (by decide), if_neg (by decide), if_pos rfl]
  rfl
theorem qO_61 {own nu tv : Int32} {K : Int32 → Int32 → Nat} {P : AF} {kind act9 xx : Int32} {rn : Nat} {bo : Nat → Int32} (h : ¬ f_holder kind act9 < 0) (hb : tBod (f_holder kind act9 * 3 + act9).toNatClampNeg = 61) {ab : Int32} (ha : tAbv (f_holder kind act9).toNatClampNeg = ab) : q_runO own nu tv K P kind act9 xx rn bo = ((P ab 1 xx (rn + 1) (bg9 61 rn bo)).1 + tv, rn + 1 + K ab 1, (P ab 1 xx (rn + 1) (bg9 61 rn bo)).2) := by
  subst ha
  unfold q_runO
  rw [if_neg h, hb, if_neg (by decide), if_neg (by decide), if_neg (by decide), if_neg (by decide), if_neg (by decide), if_neg (by decide), if_neg (by decide), if_neg (by decide), if_pos rfl]
  rfl
set_option maxRecDepth 20000 in
theorem run_0_0_0 (nu tv : Int32) (d : Nat) (xx : Int32) (rn : Nat) (bo : Nat → Int32) : runO (nI 0) nu tv (d + 1) (nI 0) 0 xx rn bo = ((xx + nu), (bg9 1 (rn) bo)) := by
  rw [show (d + 1) = (d + 0) + 1 from rfl, runO_s, qO_1 (by decide) (by decide)]
set_option maxRecDepth 20000 in
theorem run_0_0_1 (nu tv : Int32) (d : Nat) (xx : Int32) (rn : Nat) (bo : Nat → Int32) : runO (nI 0) nu tv (d + 2) (nI 0) 1 xx rn bo = (((xx + nu) - tv), (bg9 1 (rn + 1) (bg9 2 (rn) bo))) := by
  rw [show (d + 2) = (d + 1) + 1 from rfl, runO_s, qO_2 (by decide) (by decide), show runO (nI 0) nu tv (d + 1) = runO (nI 0) nu tv ((d + 0) + 1) from rfl, run_0_0_0]
set_option maxRecDepth 20000 in
theorem run_0_0_2 (nu tv : Int32) (d : Nat) (xx : Int32) (rn : Nat) (bo : Nat → Int32) : runO (nI 0) nu tv (d + 3) (nI 0) 2 xx rn bo = ((((xx + nu) - tv) * 2), (bg9 1 (rn + 1 + 1) (bg9 2 (rn + 1) (bg9 3 (rn) bo)))) := by
  rw [show (d + 3) = (d + 2) + 1 from rfl, runO_s, qO_3 (by decide) (by decide), show runO (nI 0) nu tv (d + 2) = runO (nI 0) nu tv ((d + 0) + 2) from rfl, run_0_0_1]
set_option maxRecDepth 20000 in
theorem run_1_0_0 (nu tv : Int32) (d : Nat) (xx : Int32) (rn : Nat) (bo : Nat → Int32) : runO (nI 1) nu tv (d + 1) (nI 0) 0 xx rn bo = ((xx + nu), (bg9 1 (rn) bo)) := by
  rw [show (d + 1) = (d + 0) + 1 from rfl, runO_s, qO_1 (by decide) (by decide)]
set_option maxRecDepth 20000 in
theorem run_1_1_0 (nu tv : Int32) (d : Nat) (xx : Int32) (rn : Nat) (bo : Nat → Int32) : runO (nI 1) nu tv (d + 2) (nI 1) 0 xx rn bo = (((xx * 3) + nu), (bg9 1 (rn + 1) (bg9 11 (rn) bo))) := by
  rw [show (d + 2) = (d + 1) + 1 from rfl, runO_s, qO_11 (by decide) (by decide) (ab := nI 0) (by decide), show runO (nI 1) nu tv (d + 1) = runO (nI 1) nu tv ((d + 0) + 1) from rfl, run_1_0_0]
set_option maxRecDepth 20000 in
theorem run_1_1_1 (nu tv : Int32) (d : Nat) (xx : Int32) (rn : Nat) (bo : Nat → Int32) : runO (nI 1) nu tv (d + 3) (nI 1) 1 xx rn bo = ((((xx * 3) + nu) - tv), (bg9 1 (rn + 1 + 1) (bg9 11 (rn + 1) (bg9 2 (rn) bo)))) := by
  rw [show (d + 3) = (d + 2) + 1 from rfl, runO_s, qO_2 (by decide) (by decide), show runO (nI 1) nu tv (d + 2) = runO (nI 1) nu tv ((d + 0) + 2) from rfl, run_1_1_0]
set_option maxRecDepth 20000 in
theorem run_1_1_2 (nu tv : Int32) (d : Nat) (xx : Int32) (rn : Nat) (bo : Nat → Int32) : runO (nI 1) nu tv (d + 4) (nI 1) 2 xx rn bo = (((((xx * 3) + nu) - tv) * 2), (bg9 1 (rn + 1 + 1 + 1) (bg9 11 (rn + 1 + 1) (bg9 2 (rn + 1) (bg9 3 (rn) bo))))) := by
  rw [show (d + 4) = (d + 3) + 1 from rfl, runO_s, qO_3 (by decide) (by decide), show runO (nI 1) nu tv (d + 3) = runO (nI 1) nu tv ((d + 0) + 3) from rfl, run_1_1_1]
set_option maxRecDepth 20000 in
theorem run_2_2_0 (nu tv : Int32) (d : Nat) (xx : Int32) (rn : Nat) (bo : Nat → Int32) : runO (nI 2) nu tv (d + 1) (nI 2) 0 xx rn bo = ((xx + nu), (bg9 1 (rn) bo)) := by
  rw [show (d + 1) = (d + 0) + 1 from rfl, runO_s, qO_1 (by decide) (by decide)]
set_option maxRecDepth 20000 in
theorem run_2_0_1 (nu tv : Int32) (d : Nat) (xx : Int32) (rn : Nat) (bo : Nat → Int32) : runO (nI 2) nu tv (d + 2) (nI 0) 1 xx rn bo = (((xx + nu) - tv), (bg9 1 (rn + 1) (bg9 2 (rn) bo))) := by
  rw [show (d + 2) = (d + 1) + 1 from rfl, runO_s, qO_2 (by decide) (by decide), show runO (nI 2) nu tv (d + 1) = runO (nI 2) nu tv ((d + 0) + 1) from rfl, run_2_2_0]
set_option maxRecDepth 20000 in
theorem run_2_2_1 (nu tv : Int32) (d : Nat) (xx : Int32) (rn : Nat) (bo : Nat → Int32) : runO (nI 2) nu tv (d + 3) (nI 2) 1 xx rn bo = ((-((xx + nu) - tv)), (bg9 1 (rn + 1 + 1) (bg9 2 (rn + 1) (bg9 21 (rn) bo)))) := by
  rw [show (d + 3) = (d + 2) + 1 from rfl, runO_s, qO_21 (by decide) (by decide) (ab := nI 0) (by decide), show runO (nI 2) nu tv (d + 2) = runO (nI 2) nu tv ((d + 0) + 2) from rfl, run_2_0_1]
set_option maxRecDepth 20000 in
theorem run_2_2_2 (nu tv : Int32) (d : Nat) (xx : Int32) (rn : Nat) (bo : Nat → Int32) : runO (nI 2) nu tv (d + 4) (nI 2) 2 xx rn bo = (((-((xx + nu) - tv)) * 2), (bg9 1 (rn + 1 + 1 + 1) (bg9 2 (rn + 1 + 1) (bg9 21 (rn + 1) (bg9 3 (rn) bo))))) := by
  rw [show (d + 4) = (d + 3) + 1 from rfl, runO_s, qO_3 (by decide) (by decide), show runO (nI 2) nu tv (d + 3) = runO (nI 2) nu tv ((d + 0) + 3) from rfl, run_2_2_1]
set_option maxRecDepth 20000 in
theorem run_3_3_0 (nu tv : Int32) (d : Nat) (xx : Int32) (rn : Nat) (bo : Nat → Int32) : runO (nI 3) nu tv (d + 1) (nI 3) 0 xx rn bo = ((xx + nu), (bg9 1 (rn) bo)) := by
  rw [show (d + 1) = (d + 0) + 1 from rfl, runO_s, qO_1 (by decide) (by decide)]
set_option maxRecDepth 20000 in
theorem run_3_0_1 (nu tv : Int32) (d : Nat) (xx : Int32) (rn : Nat) (bo : Nat → Int32) : runO (nI 3) nu tv (d + 2) (nI 0) 1 xx rn bo = (((xx + nu) - tv), (bg9 1 (rn + 1) (bg9 2 (rn) bo))) := by
  rw [show (d + 2) = (d + 1) + 1 from rfl, runO_s, qO_2 (by decide) (by decide), show runO (nI 3) nu tv (d + 1) = runO (nI 3) nu tv ((d + 0) + 1) from rfl, run_3_3_0]
set_option maxRecDepth 20000 in
theorem run_3_3_1 (nu tv : Int32) (d : Nat) (xx : Int32) (rn : Nat) (bo : Nat → Int32) : runO (nI 3) nu tv (d + 3) (nI 3) 1 xx rn bo = ((-((xx + nu) - tv)), (bg9 1 (rn + 1 + 1) (bg9 2 (rn + 1) (bg9 21 (rn) bo)))) := by
  rw [show (d + 3) = (d + 2) + 1 from rfl, runO_s, qO_21 (by decide) (by decide) (ab := nI 0) (by decide), show runO (nI 3) nu tv (d + 2) = runO (nI 3) nu tv ((d + 0) + 2) from rfl, run_3_0_1]
set_option maxRecDepth 20000 in
theorem run_3_2_2 (nu tv : Int32) (d : Nat) (xx : Int32) (rn : Nat) (bo : Nat → Int32) : runO (nI 3) nu tv (d + 4) (nI 2) 2 xx rn bo = (((-((xx + nu) - tv)) * 2), (bg9 1 (rn + 1 + 1 + 1) (bg9 2 (rn + 1 + 1) (bg9 21 (rn + 1) (bg9 3 (rn) bo))))) := by
  rw [show (d + 4) = (d + 3) + 1 from rfl, runO_s, qO_3 (by decide) (by decide), show runO (nI 3) nu tv (d + 3) = runO (nI 3) nu tv ((d + 0) + 3) from rfl, run_3_3_1]
set_option maxRecDepth 20000 in
theorem run_3_3_2 (nu tv : Int32) (d : Nat) (xx : Int32) (rn : Nat) (bo : Nat → Int32) : runO (nI 3) nu tv (d + 5) (nI 3) 2 xx rn bo = ((((-((xx + nu) - tv)) * 2) ^^^ 7), (bg9 1 (rn + 1 + 1 + 1 + 1) (bg9 2 (rn + 1 + 1 + 1) (bg9 21 (rn + 1 + 1) (bg9 3 (rn + 1) (bg9 31 (rn) bo)))))) := by
  rw [show (d + 5) = (d + 4) + 1 from rfl, runO_s, qO_31 (by decide) (by decide) (ab := nI 2) (by decide), show runO (nI 3) nu tv (d + 4) = runO (nI 3) nu tv ((d + 0) + 4) from rfl, run_3_2_2]
set_option maxRecDepth 20000 in
theorem run_4_0_0 (nu tv : Int32) (d : Nat) (xx : Int32) (rn : Nat) (bo : Nat → Int32) : runO (nI 4) nu tv (d + 1) (nI 0) 0 xx rn bo = ((xx + nu), (bg9 1 (rn) bo)) := by
  rw [show (d + 1) = (d + 0) + 1 from rfl, runO_s, qO_1 (by decide) (by decide)]
set_option maxRecDepth 20000 in
theorem run_4_4_0 (nu tv : Int32) (d : Nat) (xx : Int32) (rn : Nat) (bo : Nat → Int32) : runO (nI 4) nu tv (d + 2) (nI 4) 0 xx rn bo = (((xx * 3) + nu), (bg9 1 (rn + 1) (bg9 11 (rn) bo))) := by
  rw [show (d + 2) = (d + 1) + 1 from rfl, runO_s, qO_11 (by decide) (by decide) (ab := nI 0) (by decide), show runO (nI 4) nu tv (d + 1) = runO (nI 4) nu tv ((d + 0) + 1) from rfl, run_4_0_0]
set_option maxRecDepth 20000 in
theorem run_4_4_1 (nu tv : Int32) (d : Nat) (xx : Int32) (rn : Nat) (bo : Nat → Int32) : runO (nI 4) nu tv (d + 3) (nI 4) 1 xx rn bo = ((((xx * 3) + nu) - tv), (bg9 1 (rn + 1 + 1) (bg9 11 (rn + 1) (bg9 2 (rn) bo)))) := by
  rw [show (d + 3) = (d + 2) + 1 from rfl, runO_s, qO_2 (by decide) (by decide), show runO (nI 4) nu tv (d + 2) = runO (nI 4) nu tv ((d + 0) + 2) from rfl, run_4_4_0]
set_option maxRecDepth 20000 in
theorem run_4_1_2 (nu tv : Int32) (d : Nat) (xx : Int32) (rn : Nat) (bo : Nat → Int32) : runO (nI 4) nu tv (d + 4) (nI 1) 2 xx rn bo = (((((xx * 3) + nu) - tv) * 2), (bg9 1 (rn + 1 + 1 + 1) (bg9 11 (rn + 1 + 1) (bg9 2 (rn + 1) (bg9 3 (rn) bo))))) := by
  rw [show (d + 4) = (d + 3) + 1 from rfl, runO_s, qO_3 (by decide) (by decide), show runO (nI 4) nu tv (d + 3) = runO (nI 4) nu tv ((d + 0) + 3) from rfl, run_4_4_1]
set_option maxRecDepth 20000 in
theorem run_4_4_2 (nu tv : Int32) (xx : Int32) (rn : Nat) (bo : Nat → Int32) : runO (nI 4) nu tv 41 (nI 4) 2 xx rn bo = (((((((xx - 1) * 3) + nu) - tv) * 2) + ((2 * 3) + nu)), (bg9 1 (rn + 1 + 1 + 1 + 1 + 1 + 1) (bg9 11 (rn + 1 + 1 + 1 + 1 + 1) (bg9 1 (rn + 1 + 1 + 1 + 1) (bg9 11 (rn + 1 + 1 + 1) (bg9 2 (rn + 1 + 1) (bg9 3 (rn + 1) (bg9 41 (rn) bo)))))))) := by
  rw [show 41 = 40 + 1 from rfl, runO_s, qO_41 (by decide) (by decide) (ab := nI 1) (by decide), show runO (nI 4) nu tv 40 = runO (nI 4) nu tv (36 + 4) from rfl, run_4_1_2, show f_runK (nI 4) 40 (nI 1) 2 = 4 from by decide +kernel, show runO (nI 4) nu tv (36 + 4) = runO (nI 4) nu tv (38 + 2) from rfl, run_4_4_0]
set_option maxRecDepth 20000 in
theorem run_5_2_0 (nu tv : Int32) (d : Nat) (xx : Int32) (rn : Nat) (bo : Nat → Int32) : runO (nI 5) nu tv (d + 1) (nI 2) 0 xx rn bo = ((xx + nu), (bg9 1 (rn) bo)) := by
  rw [show (d + 1) = (d + 0) + 1 from rfl, runO_s, qO_1 (by decide) (by decide)]
set_option maxRecDepth 20000 in
theorem run_5_5_0 (nu tv : Int32) (d : Nat) (xx : Int32) (rn : Nat) (bo : Nat → Int32) : runO (nI 5) nu tv (d + 2) (nI 5) 0 xx rn bo = (((xx + nu) ^^^ nu), (bg9 1 (rn + 1) (bg9 51 (rn) bo))) := by
  rw [show (d + 2) = (d + 1) + 1 from rfl, runO_s, qO_51 (by decide) (by decide) (ab := nI 2) (by decide), show runO (nI 5) nu tv (d + 1) = runO (nI 5) nu tv ((d + 0) + 1) from rfl, run_5_2_0]
set_option maxRecDepth 20000 in
theorem run_5_0_1 (nu tv : Int32) (d : Nat) (xx : Int32) (rn : Nat) (bo : Nat → Int32) : runO (nI 5) nu tv (d + 3) (nI 0) 1 xx rn bo = ((((xx + nu) ^^^ nu) - tv), (bg9 1 (rn + 1 + 1) (bg9 51 (rn + 1) (bg9 2 (rn) bo)))) := by
  rw [show (d + 3) = (d + 2) + 1 from rfl, runO_s, qO_2 (by decide) (by decide), show runO (nI 5) nu tv (d + 2) = runO (nI 5) nu tv ((d + 0) + 2) from rfl, run_5_5_0]
set_option maxRecDepth 20000 in
theorem run_5_5_1 (nu tv : Int32) (d : Nat) (xx : Int32) (rn : Nat) (bo : Nat → Int32) : runO (nI 5) nu tv (d + 4) (nI 5) 1 xx rn bo = ((-(((xx + nu) ^^^ nu) - tv)), (bg9 1 (rn + 1 + 1 + 1) (bg9 51 (rn + 1 + 1) (bg9 2 (rn + 1) (bg9 21 (rn) bo))))) := by
  rw [show (d + 4) = (d + 3) + 1 from rfl, runO_s, qO_21 (by decide) (by decide) (ab := nI 0) (by decide), show runO (nI 5) nu tv (d + 3) = runO (nI 5) nu tv ((d + 0) + 3) from rfl, run_5_0_1]
set_option maxRecDepth 20000 in
theorem run_5_5_2 (nu tv : Int32) (d : Nat) (xx : Int32) (rn : Nat) (bo : Nat → Int32) : runO (nI 5) nu tv (d + 5) (nI 5) 2 xx rn bo = (((-(((xx + nu) ^^^ nu) - tv)) * 2), (bg9 1 (rn + 1 + 1 + 1 + 1) (bg9 51 (rn + 1 + 1 + 1) (bg9 2 (rn + 1 + 1) (bg9 21 (rn + 1) (bg9 3 (rn) bo)))))) := by
  rw [show (d + 5) = (d + 4) + 1 from rfl, runO_s, qO_3 (by decide) (by decide), show runO (nI 5) nu tv (d + 4) = runO (nI 5) nu tv ((d + 0) + 4) from rfl, run_5_5_1]
set_option maxRecDepth 20000 in
theorem run_6_6_0 (nu tv : Int32) (d : Nat) (xx : Int32) (rn : Nat) (bo : Nat → Int32) : runO (nI 6) nu tv (d + 1) (nI 6) 0 xx rn bo = ((xx + nu), (bg9 1 (rn) bo)) := by
  rw [show (d + 1) = (d + 0) + 1 from rfl, runO_s, qO_1 (by decide) (by decide)]
set_option maxRecDepth 20000 in
theorem run_6_0_1 (nu tv : Int32) (d : Nat) (xx : Int32) (rn : Nat) (bo : Nat → Int32) : runO (nI 6) nu tv (d + 2) (nI 0) 1 xx rn bo = (((xx + nu) - tv), (bg9 1 (rn + 1) (bg9 2 (rn) bo))) := by
  rw [show (d + 2) = (d + 1) + 1 from rfl, runO_s, qO_2 (by decide) (by decide), show runO (nI 6) nu tv (d + 1) = runO (nI 6) nu tv ((d + 0) + 1) from rfl, run_6_6_0]
set_option maxRecDepth 20000 in
theorem run_6_3_1 (nu tv : Int32) (d : Nat) (xx : Int32) (rn : Nat) (bo : Nat → Int32) : runO (nI 6) nu tv (d + 3) (nI 3) 1 xx rn bo = ((-((xx + nu) - tv)), (bg9 1 (rn + 1 + 1) (bg9 2 (rn + 1) (bg9 21 (rn) bo)))) := by
  rw [show (d + 3) = (d + 2) + 1 from rfl, runO_s, qO_21 (by decide) (by decide) (ab := nI 0) (by decide), show runO (nI 6) nu tv (d + 2) = runO (nI 6) nu tv ((d + 0) + 2) from rfl, run_6_0_1]
set_option maxRecDepth 20000 in
theorem run_6_6_1 (nu tv : Int32) (d : Nat) (xx : Int32) (rn : Nat) (bo : Nat → Int32) : runO (nI 6) nu tv (d + 4) (nI 6) 1 xx rn bo = (((-((xx + nu) - tv)) + tv), (bg9 1 (rn + 1 + 1 + 1) (bg9 2 (rn + 1 + 1) (bg9 21 (rn + 1) (bg9 61 (rn) bo))))) := by
  rw [show (d + 4) = (d + 3) + 1 from rfl, runO_s, qO_61 (by decide) (by decide) (ab := nI 3) (by decide), show runO (nI 6) nu tv (d + 3) = runO (nI 6) nu tv ((d + 0) + 3) from rfl, run_6_3_1]
set_option maxRecDepth 20000 in
theorem run_6_2_2 (nu tv : Int32) (d : Nat) (xx : Int32) (rn : Nat) (bo : Nat → Int32) : runO (nI 6) nu tv (d + 5) (nI 2) 2 xx rn bo = ((((-((xx + nu) - tv)) + tv) * 2), (bg9 1 (rn + 1 + 1 + 1 + 1) (bg9 2 (rn + 1 + 1 + 1) (bg9 21 (rn + 1 + 1) (bg9 61 (rn + 1) (bg9 3 (rn) bo)))))) := by
  rw [show (d + 5) = (d + 4) + 1 from rfl, runO_s, qO_3 (by decide) (by decide), show runO (nI 6) nu tv (d + 4) = runO (nI 6) nu tv ((d + 0) + 4) from rfl, run_6_6_1]
set_option maxRecDepth 20000 in
theorem run_6_6_2 (nu tv : Int32) (d : Nat) (xx : Int32) (rn : Nat) (bo : Nat → Int32) : runO (nI 6) nu tv (d + 6) (nI 6) 2 xx rn bo = (((((-((xx + nu) - tv)) + tv) * 2) ^^^ 7), (bg9 1 (rn + 1 + 1 + 1 + 1 + 1) (bg9 2 (rn + 1 + 1 + 1 + 1) (bg9 21 (rn + 1 + 1 + 1) (bg9 61 (rn + 1 + 1) (bg9 3 (rn + 1) (bg9 31 (rn) bo))))))) := by
  rw [show (d + 6) = (d + 5) + 1 from rfl, runO_s, qO_31 (by decide) (by decide) (ab := nI 2) (by decide), show runO (nI 6) nu tv (d + 5) = runO (nI 6) nu tv ((d + 0) + 5) from rfl, run_6_2_2]
theorem plainRules_v (ki nu tv xx : Int32) (ra : Nat) (bo : Nat → Int32) : r_plainRules ki nu tv xx ra bo = (xx + nu, ra + 1, bg9 1 ra bo) := by
  unfold r_plainRules
  rw [runs_v]
theorem rulesActs_0 (nu tv xx : Int32) (ra : Nat) (bo : Nat → Int32) : r_rulesActs (nI 0) nu tv xx ra bo = ((xx + nu), ra + 1, (bg9 1 (ra) bo)) := by
  unfold r_rulesActs
  rw [if_neg (by decide), if_neg (by decide)]
  simp only [plainRules_v]
theorem plainReads_0 (nu tv xx : Int32) (ra : Nat) (bo : Nat → Int32) : r_plainReads (nI 0) nu tv xx ra bo = (((xx + nu) - tv), ra + 1 + 1, (bg9 1 (ra + 1) (bg9 2 (ra) bo))) := by
  unfold r_plainReads
  simp only [runs_v, rulesActs_0]
theorem keptReads_0 (nu tv xx : Int32) (ra : Nat) (bo : Nat → Int32) : r_keptReads (nI 0) nu tv xx ra bo = ((-((xx + nu) - tv)), ra + 1 + 1 + 1, (bg9 1 (ra + 1 + 1) (bg9 2 (ra + 1) (bg9 21 (ra) bo)))) := by
  unfold r_keptReads
  simp only [runs_v, plainReads_0]
theorem readsActs_0 (nu tv xx : Int32) (ra : Nat) (bo : Nat → Int32) : r_readsActs (nI 0) nu tv xx ra bo = (((xx + nu) - tv), ra + 1 + 1, (bg9 1 (ra + 1) (bg9 2 (ra) bo))) := by
  unfold r_readsActs
  rw [if_neg (by decide), if_neg (by decide)]
  simp only [plainReads_0]
theorem plainAnswers_0 (nu tv xx : Int32) (ra : Nat) (bo : Nat → Int32) : r_plainAnswers (nI 0) nu tv xx ra bo = ((((xx + nu) - tv) * 2), ra + 1 + 1 + 1, (bg9 1 (ra + 1 + 1) (bg9 2 (ra + 1) (bg9 3 (ra) bo)))) := by
  unfold r_plainAnswers
  simp only [runs_v, readsActs_0]
theorem answersActs_0 (nu tv xx : Int32) (ra : Nat) (bo : Nat → Int32) : r_answersActs (nI 0) nu tv xx ra bo = ((((xx + nu) - tv) * 2), ra + 1 + 1 + 1, (bg9 1 (ra + 1 + 1) (bg9 2 (ra + 1) (bg9 3 (ra) bo)))) := by
  unfold r_answersActs
  rw [if_neg (by decide), if_neg (by decide)]
  simp only [plainAnswers_0]
theorem rulesActs_1 (nu tv xx : Int32) (ra : Nat) (bo : Nat → Int32) : r_rulesActs (nI 1) nu tv xx ra bo = (((xx * 3) + nu), ra + 1 + 1, (bg9 1 (ra + 1) (bg9 11 (ra) bo))) := by
  unfold r_rulesActs
  rw [if_pos (by decide)]
  simp only [runs_v, plainRules_v]
theorem plainReads_1 (nu tv xx : Int32) (ra : Nat) (bo : Nat → Int32) : r_plainReads (nI 1) nu tv xx ra bo = ((((xx * 3) + nu) - tv), ra + 1 + 1 + 1, (bg9 1 (ra + 1 + 1) (bg9 11 (ra + 1) (bg9 2 (ra) bo)))) := by
  unfold r_plainReads
  simp only [runs_v, rulesActs_1]
theorem keptReads_1 (nu tv xx : Int32) (ra : Nat) (bo : Nat → Int32) : r_keptReads (nI 1) nu tv xx ra bo = ((-(((xx * 3) + nu) - tv)), ra + 1 + 1 + 1 + 1, (bg9 1 (ra + 1 + 1 + 1) (bg9 11 (ra + 1 + 1) (bg9 2 (ra + 1) (bg9 21 (ra) bo))))) := by
  unfold r_keptReads
  simp only [runs_v, plainReads_1]
theorem readsActs_1 (nu tv xx : Int32) (ra : Nat) (bo : Nat → Int32) : r_readsActs (nI 1) nu tv xx ra bo = ((((xx * 3) + nu) - tv), ra + 1 + 1 + 1, (bg9 1 (ra + 1 + 1) (bg9 11 (ra + 1) (bg9 2 (ra) bo)))) := by
  unfold r_readsActs
  rw [if_neg (by decide), if_neg (by decide)]
  simp only [plainReads_1]
theorem plainAnswers_1 (nu tv xx : Int32) (ra : Nat) (bo : Nat → Int32) : r_plainAnswers (nI 1) nu tv xx ra bo = (((((xx * 3) + nu) - tv) * 2), ra + 1 + 1 + 1 + 1, (bg9 1 (ra + 1 + 1 + 1) (bg9 11 (ra + 1 + 1) (bg9 2 (ra + 1) (bg9 3 (ra) bo))))) := by
  unfold r_plainAnswers
  simp only [runs_v, readsActs_1]
theorem answersActs_1 (nu tv xx : Int32) (ra : Nat) (bo : Nat → Int32) : r_answersActs (nI 1) nu tv xx ra bo = (((((xx * 3) + nu) - tv) * 2), ra + 1 + 1 + 1 + 1, (bg9 1 (ra + 1 + 1 + 1) (bg9 11 (ra + 1 + 1) (bg9 2 (ra + 1) (bg9 3 (ra) bo))))) := by
  unfold r_answersActs
  rw [if_neg (by decide), if_neg (by decide)]
  simp only [plainAnswers_1]
theorem rulesActs_2 (nu tv xx : Int32) (ra : Nat) (bo : Nat → Int32) : r_rulesActs (nI 2) nu tv xx ra bo = ((xx + nu), ra + 1, (bg9 1 (ra) bo)) := by
  unfold r_rulesActs
  rw [if_neg (by decide), if_neg (by decide)]
  simp only [plainRules_v]
theorem plainReads_2 (nu tv xx : Int32) (ra : Nat) (bo : Nat → Int32) : r_plainReads (nI 2) nu tv xx ra bo = (((xx + nu) - tv), ra + 1 + 1, (bg9 1 (ra + 1) (bg9 2 (ra) bo))) := by
  unfold r_plainReads
  simp only [runs_v, rulesActs_2]
theorem keptReads_2 (nu tv xx : Int32) (ra : Nat) (bo : Nat → Int32) : r_keptReads (nI 2) nu tv xx ra bo = ((-((xx + nu) - tv)), ra + 1 + 1 + 1, (bg9 1 (ra + 1 + 1) (bg9 2 (ra + 1) (bg9 21 (ra) bo)))) := by
  unfold r_keptReads
  simp only [runs_v, plainReads_2]
theorem readsActs_2 (nu tv xx : Int32) (ra : Nat) (bo : Nat → Int32) : r_readsActs (nI 2) nu tv xx ra bo = ((-((xx + nu) - tv)), ra + 1 + 1 + 1, (bg9 1 (ra + 1 + 1) (bg9 2 (ra + 1) (bg9 21 (ra) bo)))) := by
  unfold r_readsActs
  rw [if_neg (by decide), if_pos (by decide)]
  simp only [keptReads_2]
theorem plainAnswers_2 (nu tv xx : Int32) (ra : Nat) (bo : Nat → Int32) : r_plainAnswers (nI 2) nu tv xx ra bo = (((-((xx + nu) - tv)) * 2), ra + 1 + 1 + 1 + 1, (bg9 1 (ra + 1 + 1 + 1) (bg9 2 (ra + 1 + 1) (bg9 21 (ra + 1) (bg9 3 (ra) bo))))) := by
  unfold r_plainAnswers
  simp only [runs_v, readsActs_2]
theorem answersActs_2 (nu tv xx : Int32) (ra : Nat) (bo : Nat → Int32) : r_answersActs (nI 2) nu tv xx ra bo = (((-((xx + nu) - tv)) * 2), ra + 1 + 1 + 1 + 1, (bg9 1 (ra + 1 + 1 + 1) (bg9 2 (ra + 1 + 1) (bg9 21 (ra + 1) (bg9 3 (ra) bo))))) := by
  unfold r_answersActs
  rw [if_neg (by decide), if_neg (by decide)]
  simp only [plainAnswers_2]
theorem rulesActs_3 (nu tv xx : Int32) (ra : Nat) (bo : Nat → Int32) : r_rulesActs (nI 3) nu tv xx ra bo = ((xx + nu), ra + 1, (bg9 1 (ra) bo)) := by
  unfold r_rulesActs
  rw [if_neg (by decide), if_neg (by decide)]
  simp only [plainRules_v]
theorem plainReads_3 (nu tv xx : Int32) (ra : Nat) (bo : Nat → Int32) : r_plainReads (nI 3) nu tv xx ra bo = (((xx + nu) - tv), ra + 1 + 1, (bg9 1 (ra + 1) (bg9 2 (ra) bo))) := by
  unfold r_plainReads
  simp only [runs_v, rulesActs_3]
theorem keptReads_3 (nu tv xx : Int32) (ra : Nat) (bo : Nat → Int32) : r_keptReads (nI 3) nu tv xx ra bo = ((-((xx + nu) - tv)), ra + 1 + 1 + 1, (bg9 1 (ra + 1 + 1) (bg9 2 (ra + 1) (bg9 21 (ra) bo)))) := by
  unfold r_keptReads
  simp only [runs_v, plainReads_3]
theorem readsActs_3 (nu tv xx : Int32) (ra : Nat) (bo : Nat → Int32) : r_readsActs (nI 3) nu tv xx ra bo = ((-((xx + nu) - tv)), ra + 1 + 1 + 1, (bg9 1 (ra + 1 + 1) (bg9 2 (ra + 1) (bg9 21 (ra) bo)))) := by
  unfold r_readsActs
  rw [if_neg (by decide), if_pos (by decide)]
  simp only [keptReads_3]
theorem plainAnswers_3 (nu tv xx : Int32) (ra : Nat) (bo : Nat → Int32) : r_plainAnswers (nI 3) nu tv xx ra bo = (((-((xx + nu) - tv)) * 2), ra + 1 + 1 + 1 + 1, (bg9 1 (ra + 1 + 1 + 1) (bg9 2 (ra + 1 + 1) (bg9 21 (ra + 1) (bg9 3 (ra) bo))))) := by
  unfold r_plainAnswers
  simp only [runs_v, readsActs_3]
theorem answersActs_3 (nu tv xx : Int32) (ra : Nat) (bo : Nat → Int32) : r_answersActs (nI 3) nu tv xx ra bo = ((((-((xx + nu) - tv)) * 2) ^^^ 7), ra + 1 + 1 + 1 + 1 + 1, (bg9 1 (ra + 1 + 1 + 1 + 1) (bg9 2 (ra + 1 + 1 + 1) (bg9 21 (ra + 1 + 1) (bg9 3 (ra + 1) (bg9 31 (ra) bo)))))) := by
  unfold r_answersActs
  rw [if_pos (by decide)]
  simp only [runs_v, plainAnswers_3]
theorem rulesActs_4 (nu tv xx : Int32) (ra : Nat) (bo : Nat → Int32) : r_rulesActs (nI 4) nu tv xx ra bo = (((xx * 3) + nu), ra + 1 + 1, (bg9 1 (ra + 1) (bg9 11 (ra) bo))) := by
  unfold r_rulesActs
  rw [if_pos (by decide)]
  simp only [runs_v, plainRules_v]
theorem plainReads_4 (nu tv xx : Int32) (ra : Nat) (bo : Nat → Int32) : r_plainReads (nI 4) nu tv xx ra bo = ((((xx * 3) + nu) - tv), ra + 1 + 1 + 1, (bg9 1 (ra + 1 + 1) (bg9 11 (ra + 1) (bg9 2 (ra) bo)))) := by
  unfold r_plainReads
  simp only [runs_v, rulesActs_4]
theorem keptReads_4 (nu tv xx : Int32) (ra : Nat) (bo : Nat → Int32) : r_keptReads (nI 4) nu tv xx ra bo = ((-(((xx * 3) + nu) - tv)), ra + 1 + 1 + 1 + 1, (bg9 1 (ra + 1 + 1 + 1) (bg9 11 (ra + 1 + 1) (bg9 2 (ra + 1) (bg9 21 (ra) bo))))) := by
  unfold r_keptReads
  simp only [runs_v, plainReads_4]
theorem readsActs_4 (nu tv xx : Int32) (ra : Nat) (bo : Nat → Int32) : r_readsActs (nI 4) nu tv xx ra bo = ((((xx * 3) + nu) - tv), ra + 1 + 1 + 1, (bg9 1 (ra + 1 + 1) (bg9 11 (ra + 1) (bg9 2 (ra) bo)))) := by
  unfold r_readsActs
  rw [if_neg (by decide), if_neg (by decide)]
  simp only [plainReads_4]
theorem plainAnswers_4 (nu tv xx : Int32) (ra : Nat) (bo : Nat → Int32) : r_plainAnswers (nI 4) nu tv xx ra bo = (((((xx * 3) + nu) - tv) * 2), ra + 1 + 1 + 1 + 1, (bg9 1 (ra + 1 + 1 + 1) (bg9 11 (ra + 1 + 1) (bg9 2 (ra + 1) (bg9 3 (ra) bo))))) := by
  unfold r_plainAnswers
  simp only [runs_v, readsActs_4]
theorem answersActs_4 (nu tv xx : Int32) (ra : Nat) (bo : Nat → Int32) : r_answersActs (nI 4) nu tv xx ra bo = (((((((xx - 1) * 3) + nu) - tv) * 2) + ((2 * 3) + nu)), ra + 1 + 1 + 1 + 1 + 1 + 1 + 1, (bg9 1 (ra + 1 + 1 + 1 + 1 + 1 + 1) (bg9 11 (ra + 1 + 1 + 1 + 1 + 1) (bg9 1 (ra + 1 + 1 + 1 + 1) (bg9 11 (ra + 1 + 1 + 1) (bg9 2 (ra + 1 + 1) (bg9 3 (ra + 1) (bg9 41 (ra) bo)))))))) := by
  unfold r_answersActs
  rw [if_neg (by decide), if_pos (by decide)]
  simp only [runs_v, plainAnswers_4, rulesActs_4]
theorem rulesActs_5 (nu tv xx : Int32) (ra : Nat) (bo : Nat → Int32) : r_rulesActs (nI 5) nu tv xx ra bo = (((xx + nu) ^^^ nu), ra + 1 + 1, (bg9 1 (ra + 1) (bg9 51 (ra) bo))) := by
  unfold r_rulesActs
  rw [if_neg (by decide), if_pos (by decide)]
  simp only [runs_v, plainRules_v]
theorem plainReads_5 (nu tv xx : Int32) (ra : Nat) (bo : Nat → Int32) : r_plainReads (nI 5) nu tv xx ra bo = ((((xx + nu) ^^^ nu) - tv), ra + 1 + 1 + 1, (bg9 1 (ra + 1 + 1) (bg9 51 (ra + 1) (bg9 2 (ra) bo)))) := by
  unfold r_plainReads
  simp only [runs_v, rulesActs_5]
theorem keptReads_5 (nu tv xx : Int32) (ra : Nat) (bo : Nat → Int32) : r_keptReads (nI 5) nu tv xx ra bo = ((-(((xx + nu) ^^^ nu) - tv)), ra + 1 + 1 + 1 + 1, (bg9 1 (ra + 1 + 1 + 1) (bg9 51 (ra + 1 + 1) (bg9 2 (ra + 1) (bg9 21 (ra) bo))))) := by
  unfold r_keptReads
  simp only [runs_v, plainReads_5]
theorem readsActs_5 (nu tv xx : Int32) (ra : Nat) (bo : Nat → Int32) : r_readsActs (nI 5) nu tv xx ra bo = ((-(((xx + nu) ^^^ nu) - tv)), ra + 1 + 1 + 1 + 1, (bg9 1 (ra + 1 + 1 + 1) (bg9 51 (ra + 1 + 1) (bg9 2 (ra + 1) (bg9 21 (ra) bo))))) := by
  unfold r_readsActs
  rw [if_neg (by decide), if_pos (by decide)]
  simp only [keptReads_5]
theorem plainAnswers_5 (nu tv xx : Int32) (ra : Nat) (bo : Nat → Int32) : r_plainAnswers (nI 5) nu tv xx ra bo = (((-(((xx + nu) ^^^ nu) - tv)) * 2), ra + 1 + 1 + 1 + 1 + 1, (bg9 1 (ra + 1 + 1 + 1 + 1) (bg9 51 (ra + 1 + 1 + 1) (bg9 2 (ra + 1 + 1) (bg9 21 (ra + 1) (bg9 3 (ra) bo)))))) := by
  unfold r_plainAnswers
  simp only [runs_v, readsActs_5]
theorem answersActs_5 (nu tv xx : Int32) (ra : Nat) (bo : Nat → Int32) : r_answersActs (nI 5) nu tv xx ra bo = (((-(((xx + nu) ^^^ nu) - tv)) * 2), ra + 1 + 1 + 1 + 1 + 1, (bg9 1 (ra + 1 + 1 + 1 + 1) (bg9 51 (ra + 1 + 1 + 1) (bg9 2 (ra + 1 + 1) (bg9 21 (ra + 1) (bg9 3 (ra) bo)))))) := by
  unfold r_answersActs
  rw [if_neg (by decide), if_neg (by decide)]
  simp only [plainAnswers_5]
theorem rulesActs_6 (nu tv xx : Int32) (ra : Nat) (bo : Nat → Int32) : r_rulesActs (nI 6) nu tv xx ra bo = ((xx + nu), ra + 1, (bg9 1 (ra) bo)) := by
  unfold r_rulesActs
  rw [if_neg (by decide), if_neg (by decide)]
  simp only [plainRules_v]
theorem plainReads_6 (nu tv xx : Int32) (ra : Nat) (bo : Nat → Int32) : r_plainReads (nI 6) nu tv xx ra bo = (((xx + nu) - tv), ra + 1 + 1, (bg9 1 (ra + 1) (bg9 2 (ra) bo))) := by
  unfold r_plainReads
  simp only [runs_v, rulesActs_6]
theorem keptReads_6 (nu tv xx : Int32) (ra : Nat) (bo : Nat → Int32) : r_keptReads (nI 6) nu tv xx ra bo = ((-((xx + nu) - tv)), ra + 1 + 1 + 1, (bg9 1 (ra + 1 + 1) (bg9 2 (ra + 1) (bg9 21 (ra) bo)))) := by
  unfold r_keptReads
  simp only [runs_v, plainReads_6]
theorem readsActs_6 (nu tv xx : Int32) (ra : Nat) (bo : Nat → Int32) : r_readsActs (nI 6) nu tv xx ra bo = (((-((xx + nu) - tv)) + tv), ra + 1 + 1 + 1 + 1, (bg9 1 (ra + 1 + 1 + 1) (bg9 2 (ra + 1 + 1) (bg9 21 (ra + 1) (bg9 61 (ra) bo))))) := by
  unfold r_readsActs
  rw [if_pos (by decide)]
  simp only [runs_v, keptReads_6]
theorem plainAnswers_6 (nu tv xx : Int32) (ra : Nat) (bo : Nat → Int32) : r_plainAnswers (nI 6) nu tv xx ra bo = ((((-((xx + nu) - tv)) + tv) * 2), ra + 1 + 1 + 1 + 1 + 1, (bg9 1 (ra + 1 + 1 + 1 + 1) (bg9 2 (ra + 1 + 1 + 1) (bg9 21 (ra + 1 + 1) (bg9 61 (ra + 1) (bg9 3 (ra) bo)))))) := by
  unfold r_plainAnswers
  simp only [runs_v, readsActs_6]
theorem answersActs_6 (nu tv xx : Int32) (ra : Nat) (bo : Nat → Int32) : r_answersActs (nI 6) nu tv xx ra bo = (((((-((xx + nu) - tv)) + tv) * 2) ^^^ 7), ra + 1 + 1 + 1 + 1 + 1 + 1, (bg9 1 (ra + 1 + 1 + 1 + 1 + 1) (bg9 2 (ra + 1 + 1 + 1 + 1) (bg9 21 (ra + 1 + 1 + 1) (bg9 61 (ra + 1 + 1) (bg9 3 (ra + 1) (bg9 31 (ra) bo))))))) := by
  unfold r_answersActs
  rw [if_pos (by decide)]
  simp only [runs_v, plainAnswers_6]
def refA (k a : Nat) (nu tv xx : Int32) (bo : Nat → Int32) : Int32 × Nat × (Nat → Int32) := if a = 0 then r_rulesActs (nI k) nu tv xx 0 bo else if a = 1 then r_readsActs (nI k) nu tv xx 0 bo else r_answersActs (nI k) nu tv xx 0 bo
def actR (k a : Nat) (nu tv xx : Int32) (b1 b2 : Nat → Int32) : Prop := ∃ K : Nat, K ≤ 100 ∧ (runO (nI k) nu tv 41 (nI k) (nI a) xx 0 b1).1 = (refA k a nu tv xx b2).1 ∧ f_runK (nI k) 41 (nI k) (nI a) = K ∧ (refA k a nu tv xx b2).2.1 = K ∧ trR9 K (runO (nI k) nu tv 41 (nI k) (nI a) xx 0 b1).2 (refA k a nu tv xx b2).2.2
theorem act_0_0 (nu tv xx : Int32) (b1 b2 : Nat → Int32) : actR 0 0 nu tv xx b1 b2 := by
  have h1 : runO (nI 0) nu tv 41 (nI 0) (nI 0) xx 0 b1 = _ := run_0_0_0 nu tv (40) xx 0 b1
  have h2 : refA 0 0 nu tv xx b2 = _ := rulesActs_0 nu tv xx 0 b2
  unfold actR
  rw [h1, h2]
  exact ⟨1, by decide, rfl, by decide +kernel, rfl, (trB (fun j hj _ => absurd hj (Nat.not_lt_zero _)) (by decide) 1)⟩
theorem act_0_1 (nu tv xx : Int32) (b1 b2 : Nat → Int32) : actR 0 1 nu tv xx b1 b2 := by
  have h1 : runO (nI 0) nu tv 41 (nI 0) (nI 1) xx 0 b1 = _ := run_0_0_1 nu tv (39) xx 0 b1
  have h2 : refA 0 1 nu tv xx b2 = _ := readsActs_0 nu tv xx 0 b2
  unfold actR
  rw [h1, h2]
  exact ⟨2, by decide, rfl, by decide +kernel, rfl, (trB (trB (fun j hj _ => absurd hj (Nat.not_lt_zero _)) (by decide) 2) (by decide) 1)⟩
theorem act_0_2 (nu tv xx : Int32) (b1 b2 : Nat → Int32) : actR 0 2 nu tv xx b1 b2 := by
  have h1 : runO (nI 0) nu tv 41 (nI 0) (nI 2) xx 0 b1 = _ := run_0_0_2 nu tv (38) xx 0 b1
  have h2 : refA 0 2 nu tv xx b2 = _ := answersActs_0 nu tv xx 0 b2
  unfold actR
  rw [h1, h2]
  exact ⟨3, by decide, rfl, by decide +kernel, rfl, (trB (trB (trB (fun j hj _ => absurd hj (Nat.not_lt_zero _)) (by decide) 3) (by decide) 2) (by decide) 1)⟩
theorem act_1_0 (nu tv xx : Int32) (b1 b2 : Nat → Int32) : actR 1 0 nu tv xx b1 b2 := by
  have h1 : runO (nI 1) nu tv 41 (nI 1) (nI 0) xx 0 b1 = _ := run_1_1_0 nu tv (39) xx 0 b1
  have h2 : refA 1 0 nu tv xx b2 = _ := rulesActs_1 nu tv xx 0 b2
  unfold actR
  rw [h1, h2]
  exact ⟨2, by decide, rfl, by decide +kernel, rfl, (trB (trB (fun j hj _ => absurd hj (Nat.not_lt_zero _)) (by decide) 11) (by decide) 1)⟩
theorem act_1_1 (nu tv xx : Int32) (b1 b2 : Nat → Int32) : actR 1 1 nu tv xx b1 b2 := by
  have h1 : runO (nI 1) nu tv 41 (nI 1) (nI 1) xx 0 b1 = _ := run_1_1_1 nu tv (38) xx 0 b1
  have h2 : refA 1 1 nu tv xx b2 = _ := readsActs_1 nu tv xx 0 b2
  unfold actR
  rw [h1, h2]
  exact ⟨3, by decide, rfl, by decide +kernel, rfl, (trB (trB (trB (fun j hj _ => absurd hj (Nat.not_lt_zero _)) (by decide) 2) (by decide) 11) (by decide) 1)⟩
theorem act_1_2 (nu tv xx : Int32) (b1 b2 : Nat → Int32) : actR 1 2 nu tv xx b1 b2 := by
  have h1 : runO (nI 1) nu tv 41 (nI 1) (nI 2) xx 0 b1 = _ := run_1_1_2 nu tv (37) xx 0 b1
  have h2 : refA 1 2 nu tv xx b2 = _ := answersActs_1 nu tv xx 0 b2
  unfold actR
  rw [h1, h2]
  exact ⟨4, by decide, rfl, by decide +kernel, rfl, (trB (trB (trB (trB (fun j hj _ => absurd hj (Nat.not_lt_zero _)) (by decide) 3) (by decide) 2) (by decide) 11) (by decide) 1)⟩
theorem act_2_0 (nu tv xx : Int32) (b1 b2 : Nat → Int32) : actR 2 0 nu tv xx b1 b2 := by
  have h1 : runO (nI 2) nu tv 41 (nI 2) (nI 0) xx 0 b1 = _ := run_2_2_0 nu tv (40) xx 0 b1
  have h2 : refA 2 0 nu tv xx b2 = _ := rulesActs_2 nu tv xx 0 b2
  unfold actR
  rw [h1, h2]
  exact ⟨1, by decide, rfl, by decide +kernel, rfl, (trB (fun j hj _ => absurd hj (Nat.not_lt_zero _)) (by decide) 1)⟩
theorem act_2_1 (nu tv xx : Int32) (b1 b2 : Nat → Int32) : actR 2 1 nu tv xx b1 b2 := by
  have h1 : runO (nI 2) nu tv 41 (nI 2) (nI 1) xx 0 b1 = _ := run_2_2_1 nu tv (38) xx 0 b1
  have h2 : refA 2 1 nu tv xx b2 = _ := readsActs_2 nu tv xx 0 b2
  unfold actR
  rw [h1, h2]
  exact ⟨3, by decide, rfl, by decide +kernel, rfl, (trB (trB (trB (fun j hj _ => absurd hj (Nat.not_lt_zero _)) (by decide) 21) (by decide) 2) (by decide) 1)⟩
theorem act_2_2 (nu tv xx : Int32) (b1 b2 : Nat → Int32) : actR 2 2 nu tv xx b1 b2 := by
  have h1 : runO (nI 2) nu tv 41 (nI 2) (nI 2) xx 0 b1 = _ := run_2_2_2 nu tv (37) xx 0 b1
  have h2 : refA 2 2 nu tv xx b2 = _ := answersActs_2 nu tv xx 0 b2
  unfold actR
  rw [h1, h2]
  exact ⟨4, by decide, rfl, by decide +kernel, rfl, (trB (trB (trB (trB (fun j hj _ => absurd hj (Nat.not_lt_zero _)) (by decide) 3) (by decide) 21) (by decide) 2) (by decide) 1)⟩
theorem act_3_0 (nu tv xx : Int32) (b1 b2 : Nat → Int32) : actR 3 0 nu tv xx b1 b2 := by
  have h1 : runO (nI 3) nu tv 41 (nI 3) (nI 0) xx 0 b1 = _ := run_3_3_0 nu tv (40) xx 0 b1
  have h2 : refA 3 0 nu tv xx b2 = _ := rulesActs_3 nu tv xx 0 b2
  unfold actR
  rw [h1, h2]
  exact ⟨1, by decide, rfl, by decide +kernel, rfl, (trB (fun j hj _ => absurd hj (Nat.not_lt_zero _)) (by decide) 1)⟩
theorem act_3_1 (nu tv xx : Int32) (b1 b2 : Nat → Int32) : actR 3 1 nu tv xx b1 b2 := by
  have h1 : runO (nI 3) nu tv 41 (nI 3) (nI 1) xx 0 b1 = _ := run_3_3_1 nu tv (38) xx 0 b1
  have h2 : refA 3 1 nu tv xx b2 = _ := readsActs_3 nu tv xx 0 b2
  unfold actR
  rw [h1, h2]
  exact ⟨3, by decide, rfl, by decide +kernel, rfl, (trB (trB (trB (fun j hj _ => absurd hj (Nat.not_lt_zero _)) (by decide) 21) (by decide) 2) (by decide) 1)⟩
theorem act_3_2 (nu tv xx : Int32) (b1 b2 : Nat → Int32) : actR 3 2 nu tv xx b1 b2 := by
  have h1 : runO (nI 3) nu tv 41 (nI 3) (nI 2) xx 0 b1 = _ := run_3_3_2 nu tv (36) xx 0 b1
  have h2 : refA 3 2 nu tv xx b2 = _ := answersActs_3 nu tv xx 0 b2
  unfold actR
  rw [h1, h2]
  exact ⟨5, by decide, rfl, by decide +kernel, rfl, (trB (trB (trB (trB (trB (fun j hj _ => absurd hj (Nat.not_lt_zero _)) (by decide) 31) (by decide) 3) (by decide) 21) (by decide) 2) (by decide) 1)⟩
theorem act_4_0 (nu tv xx : Int32) (b1 b2 : Nat → Int32) : actR 4 0 nu tv xx b1 b2 := by
  have h1 : runO (nI 4) nu tv 41 (nI 4) (nI 0) xx 0 b1 = _ := run_4_4_0 nu tv (39) xx 0 b1
  have h2 : refA 4 0 nu tv xx b2 = _ := rulesActs_4 nu tv xx 0 b2
  unfold actR
  rw [h1, h2]
  exact ⟨2, by decide, rfl, by decide +kernel, rfl, (trB (trB (fun j hj _ => absurd hj (Nat.not_lt_zero _)) (by decide) 11) (by decide) 1)⟩
theorem act_4_1 (nu tv xx : Int32) (b1 b2 : Nat → Int32) : actR 4 1 nu tv xx b1 b2 := by
  have h1 : runO (nI 4) nu tv 41 (nI 4) (nI 1) xx 0 b1 = _ := run_4_4_1 nu tv (38) xx 0 b1
  have h2 : refA 4 1 nu tv xx b2 = _ := readsActs_4 nu tv xx 0 b2
  unfold actR
  rw [h1, h2]
  exact ⟨3, by decide, rfl, by decide +kernel, rfl, (trB (trB (trB (fun j hj _ => absurd hj (Nat.not_lt_zero _)) (by decide) 2) (by decide) 11) (by decide) 1)⟩
theorem act_4_2 (nu tv xx : Int32) (b1 b2 : Nat → Int32) : actR 4 2 nu tv xx b1 b2 := by
  have h1 : runO (nI 4) nu tv 41 (nI 4) (nI 2) xx 0 b1 = _ := run_4_4_2 nu tv xx 0 b1
  have h2 : refA 4 2 nu tv xx b2 = _ := answersActs_4 nu tv xx 0 b2
  unfold actR
  rw [h1, h2]
  exact ⟨7, by decide, rfl, by decide +kernel, rfl, (trB (trB (trB (trB (trB (trB (trB (fun j hj _ => absurd hj (Nat.not_lt_zero _)) (by decide) 41) (by decide) 3) (by decide) 2) (by decide) 11) (by decide) 1) (by decide) 11) (by decide) 1)⟩
theorem act_5_0 (nu tv xx : Int32) (b1 b2 : Nat → Int32) : actR 5 0 nu tv xx b1 b2 := by
  have h1 : runO (nI 5) nu tv 41 (nI 5) (nI 0) xx 0 b1 = _ := run_5_5_0 nu tv (39) xx 0 b1
  have h2 : refA 5 0 nu tv xx b2 = _ := rulesActs_5 nu tv xx 0 b2
  unfold actR
  rw [h1, h2]
  exact ⟨2, by decide, rfl, by decide +kernel, rfl, (trB (trB (fun j hj _ => absurd hj (Nat.not_lt_zero _)) (by decide) 51) (by decide) 1)⟩
theorem act_5_1 (nu tv xx : Int32) (b1 b2 : Nat → Int32) : actR 5 1 nu tv xx b1 b2 := by
  have h1 : runO (nI 5) nu tv 41 (nI 5) (nI 1) xx 0 b1 = _ := run_5_5_1 nu tv (37) xx 0 b1
  have h2 : refA 5 1 nu tv xx b2 = _ := readsActs_5 nu tv xx 0 b2
  unfold actR
  rw [h1, h2]
  exact ⟨4, by decide, rfl, by decide +kernel, rfl, (trB (trB (trB (trB (fun j hj _ => absurd hj (Nat.not_lt_zero _)) (by decide) 21) (by decide) 2) (by decide) 51) (by decide) 1)⟩
theorem act_5_2 (nu tv xx : Int32) (b1 b2 : Nat → Int32) : actR 5 2 nu tv xx b1 b2 := by
  have h1 : runO (nI 5) nu tv 41 (nI 5) (nI 2) xx 0 b1 = _ := run_5_5_2 nu tv (36) xx 0 b1
  have h2 : refA 5 2 nu tv xx b2 = _ := answersActs_5 nu tv xx 0 b2
  unfold actR
  rw [h1, h2]
  exact ⟨5, by decide, rfl, by decide +kernel, rfl, (trB (trB (trB (trB (trB (fun j hj _ => absurd hj (Nat.not_lt_zero _)) (by decide) 3) (by decide) 21) (by decide) 2) (by decide) 51) (by decide) 1)⟩
theorem act_6_0 (nu tv xx : Int32) (b1 b2 : Nat → Int32) : actR 6 0 nu tv xx b1 b2 := by
  have h1 : runO (nI 6) nu tv 41 (nI 6) (nI 0) xx 0 b1 = _ := run_6_6_0 nu tv (40) xx 0 b1
  have h2 : refA 6 0 nu tv xx b2 = _ := rulesActs_6 nu tv xx 0 b2
  unfold actR
  rw [h1, h2]
  exact ⟨1, by decide, rfl, by decide +kernel, rfl, (trB (fun j hj _ => absurd hj (Nat.not_lt_zero _)) (by decide) 1)⟩
theorem act_6_1 (nu tv xx : Int32) (b1 b2 : Nat → Int32) : actR 6 1 nu tv xx b1 b2 := by
  have h1 : runO (nI 6) nu tv 41 (nI 6) (nI 1) xx 0 b1 = _ := run_6_6_1 nu tv (37) xx 0 b1
  have h2 : refA 6 1 nu tv xx b2 = _ := readsActs_6 nu tv xx 0 b2
  unfold actR
  rw [h1, h2]
  exact ⟨4, by decide, rfl, by decide +kernel, rfl, (trB (trB (trB (trB (fun j hj _ => absurd hj (Nat.not_lt_zero _)) (by decide) 61) (by decide) 21) (by decide) 2) (by decide) 1)⟩
theorem act_6_2 (nu tv xx : Int32) (b1 b2 : Nat → Int32) : actR 6 2 nu tv xx b1 b2 := by
  have h1 : runO (nI 6) nu tv 41 (nI 6) (nI 2) xx 0 b1 = _ := run_6_6_2 nu tv (35) xx 0 b1
  have h2 : refA 6 2 nu tv xx b2 = _ := answersActs_6 nu tv xx 0 b2
  unfold actR
  rw [h1, h2]
  exact ⟨6, by decide, rfl, by decide +kernel, rfl, (trB (trB (trB (trB (trB (trB (fun j hj _ => absurd hj (Nat.not_lt_zero _)) (by decide) 31) (by decide) 3) (by decide) 61) (by decide) 21) (by decide) 2) (by decide) 1)⟩
theorem act_all {k a : Nat} (hk : k < 7) (ha : a < 3) (nu tv xx : Int32) (b1 b2 : Nat → Int32) : actR k a nu tv xx b1 b2 := by
  match k, hk, a, ha with
  | 0, _, 0, _ => exact act_0_0 nu tv xx b1 b2
  | 0, _, 1, _ => exact act_0_1 nu tv xx b1 b2
  | 0, _, 2, _ => exact act_0_2 nu tv xx b1 b2
  | 1, _, 0, _ => exact act_1_0 nu tv xx b1 b2
  | 1, _, 1, _ => exact act_1_1 nu tv xx b1 b2
  | 1, _, 2, _ => exact act_1_2 nu tv xx b1 b2
  | 2, _, 0, _ => exact act_2_0 nu tv xx b1 b2
  | 2, _, 1, _ => exact act_2_1 nu tv xx b1 b2
  | 2, _, 2, _ => exact act_2_2 nu tv xx b1 b2
  | 3, _, 0, _ => exact act_3_0 nu tv xx b1 b2
  | 3, _, 1, _ => exact act_3_1 nu tv xx b1 b2
  | 3, _, 2, _ => exact act_3_2 nu tv xx b1 b2
  | 4, _, 0, _ => exact act_4_0 nu tv xx b1 b2
  | 4, _, 1, _ => exact act_4_1 nu tv xx b1 b2
  | 4, _, 2, _ => exact act_4_2 nu tv xx b1 b2
  | 5, _, 0, _ => exact act_5_0 nu tv xx b1 b2
  | 5, _, 1, _ => exact act_5_1 nu tv xx b1 b2
  | 5, _, 2, _ => exact act_5_2 nu tv xx b1 b2
  | 6, _, 0, _ => exact act_6_0 nu tv xx b1 b2
  | 6, _, 1, _ => exact act_6_1 nu tv xx b1 b2
  | 6, _, 2, _ => exact act_6_2 nu tv xx b1 b2

/-! what a law tells: alike -/
def sel4 (a b c d : Bool) (j : Nat) : Bool := if j = 0 then a else if j = 1 then b else if j = 2 then c else d
def all4 (a b c d : Bool) (j : Nat) : Bool := a && (decide (j < 1) || b) && (decide (j < 2) || c) && (decide (j < 3) || d)
theorem kv_bit : ∀ a b c d : Bool, ∀ j : Nat, j < 4 → (((kv a b c d &&& ((1 : Int32) <<< (nI j &&& 31))) = ((1 : Int32) <<< (nI j &&& 31))) ↔ sel4 a b c d j = true) := by decide
theorem kv_each : ∀ a b c d : Bool, ∀ j : Nat, j < 4 → (((kv a b c d &&& (((1 : Int32) <<< (nI j &&& 31)) ||| (((1 : Int32) <<< (nI j &&& 31)) - 1))) = (((1 : Int32) <<< (nI j &&& 31)) ||| (((1 : Int32) <<< (nI j &&& 31)) - 1))) ↔ all4 a b c d j = true) := by decide
theorem sel4_at (K : Nat → Bool) {j : Nat} (hj : j < 4) : sel4 (K 0) (K 1) (K 2) (K 3) j = K j := by
  match j, hj with
  | 0, _ => rfl
  | 1, _ => rfl
  | 2, _ => rfl
  | 3, _ => rfl
theorem each_at (x : MT) (l c gg : Int32) {j : Nat} (hj : j < 4) : r_isKeptEach x l c j gg = all4 (r_isKept x l c (nI 0) gg) (r_isKept x l c (nI 1) gg) (r_isKept x l c (nI 2) gg) (r_isKept x l c (nI 3) gg) j := by
  unfold r_isKeptEach
  have e : ∀ k kp, r_eachIt_st x l c gg k kp = (kp && r_isKept x l c (nI k) gg) := fun k kp => by
    unfold r_eachIt_st
    cases kp <;> cases r_isKept x l c (nI k) gg <;> rfl
  match j, hj with
  | 0, _ => show r_eachIt_st x l c gg 0 true = _; rw [e]; simp [all4]
  | 1, _ => show r_eachIt_st x l c gg 1 (r_eachIt_st x l c gg 0 true) = _; rw [e, e]; simp [all4]
  | 2, _ => show r_eachIt_st x l c gg 2 (r_eachIt_st x l c gg 1 (r_eachIt_st x l c gg 0 true)) = _; rw [e, e, e]; simp [all4]
  | 3, _ => show r_eachIt_st x l c gg 3 (r_eachIt_st x l c gg 2 (r_eachIt_st x l c gg 1 (r_eachIt_st x l c gg 0 true))) = _; rw [e, e, e, e]; simp [all4]
theorem least_eq {v : Int32} (h : ib 0 9 v) : (if v < 1 then 1 else v) = (if v = 0 then 1 else v) := by
  obtain ⟨n, rfl, h1, h2⟩ := h.nI_eq (by decide)
  match n, h2 with
  | 0, _ => decide
  | 1, _ => decide
  | 2, _ => decide
  | 3, _ => decide
  | 4, _ => decide
  | 5, _ => decide
  | 6, _ => decide
  | 7, _ => decide
  | 8, _ => decide
  | 9, _ => decide
theorem as_c {wd : WT} {x : MT} (hR : Rl wd (mS x)) {a : Nat} (ha : a < (wAs wd).1) {j : Nat} (hj : j < 7) : f_at 7 (wAs wd) (nI a) (nI j) = mS x (nI (170 + 16 * j) + nI a).toNatClampNeg := by
  have := hR.c1.2
  rw [hR.asg ha hj, cl2 (by omega)]
theorem looks_eq {wd : WT} {x : MT} (hR : Rl wd (mS x)) {a : Nat} (ha : a < (wAs wd).1) {v : Int32} (h : ib 0 9 v) : w_asLooks wd (nI a) v = r_byLooks x (nI a) v := by
  unfold w_asLooks r_byLooks
  rw [show f_at 7 (wAs wd) (nI a) 5 = mS x ((250 : Int32) + nI a).toNatClampNeg from as_c hR ha (j := 5) (by decide), least_eq h]
  by_cases q : mS x ((250 : Int32) + nI a).toNatClampNeg < (if v = 0 then 1 else v)
  · rw [if_pos q, if_pos q]
    by_cases p : -(if v = 0 then 1 else v) < mS x ((250 : Int32) + nI a).toNatClampNeg
    · rw [if_pos p, if_pos p]; rfl
    · rw [if_neg p, if_neg p]; rfl
  · rw [if_neg q, if_neg q]
theorem looks_1 {wd : WT} {x : MT} (hR : Rl wd (mS x)) {a : Nat} (ha : a < (wAs wd).1) : w_asLooks wd (nI a) 1 = r_byLooks x (nI a) 0 := by
  rw [looks_eq hR ha ⟨by decide, by decide⟩]
  unfold r_byLooks
  rw [show (if (1 : Int32) = 0 then (1 : Int32) else 1) = 1 from by decide, show (if (0 : Int32) = 0 then (1 : Int32) else 0) = 1 from by decide]
theorem pressed_eq {wd : WT} {x : MT} (hR : Rl wd (mS x)) {a : Nat} (ha : a < (wAs wd).1) : w_isPressed wd (nI a) = (if ((mS x) (202 + nI a).toNatClampNeg) = 2 then if (mS x) (186 + nI a).toNatClampNeg = 0 then true else false else false) := by
  unfold w_isPressed
  rw [show f_at 7 (wAs wd) (nI a) 1 = mS x ((186 : Int32) + nI a).toNatClampNeg from as_c hR ha (j := 1) (by decide), show f_at 7 (wAs wd) (nI a) 2 = mS x ((202 : Int32) + nI a).toNatClampNeg from as_c hR ha (j := 2) (by decide)]
  by_cases p : mS x ((186 : Int32) + nI a).toNatClampNeg = 0
  · simp [p]
  · simp [p]
theorem asked_eq {wd : WT} {x : MT} (hR : Rl wd (mS x)) {a : Nat} (ha : a < (wAs wd).1) (t : Int32) : (if t = 1 then if w_isPressed wd (nI a) = true then w_asLooks wd (nI a) 1 else t else t) = r_asked x (nI a) t := by
  unfold r_asked
  rw [pressed_eq hR ha, looks_1 hR ha]
  generalize (if ((mS x) (202 + nI a).toNatClampNeg) = 2 then if (mS x) (186 + nI a).toNatClampNeg = 0 then true else false else false) = b
  cases b with
  | true => simp
  | false => simp
theorem keeping_eq {wd : WT} {x : MT} (hR : Rl wd (mS x)) {a : Nat} (ha : a < (wAs wd).1) {p : Prop} [Decidable p] {b : Bool} (h : p ↔ b = true) : (if p then (f_at 7 (wAs wd) (nI a) 6) + 1 else w_asLooks wd (nI a) 1) = r_byKeeping x (nI a) b := by
  unfold r_byKeeping
  rw [looks_1 hR ha, show f_at 7 (wAs wd) (nI a) 6 = mS x ((266 : Int32) + nI a).toNatClampNeg from as_c hR ha (j := 6) (by decide)]
  by_cases q : p
  · rw [if_pos q, if_pos (h.mp q)]
  · rw [if_neg q, if_neg (fun z => q (h.mpr z))]
theorem kind_eq {wd : WT} {x : MT} (hI : mI (mS x)) (hO : mO (mS x)) (hR : Rl wd (mS x)) {l c a : Nat} (hl : l < wLc wd) (hc : c < (wCh wd).1) (ha : a < (wAs wd).1) {gg : Int32} (hg : ib 0 219 gg) : w_toldByKind wd l (w_keptAt wd l (nI c) gg) (nI a) gg = r_byKind x (nI l) (nI c) (nI a) gg := by
  have hl8 := hR.c3.2
  have ha8 := hR.c1.2
  obtain ⟨-, ek, ev, -⟩ := hR.lw hl
  have e1 : mS x ((482 : Int32) + nI l).toNatClampNeg = lKind (wLw wd l) := by rw [show (482 : Int32) = nI 482 from rfl, cl2 (by omega)]; exact ek.symm
  have e2 : mS x ((490 : Int32) + nI l).toNatClampNeg = lV (wLw wd l) := by rw [show (490 : Int32) = nI 490 from rfl, cl2 (by omega)]; exact ev.symm
  have iv : ib 0 9 (lV (wLw wd l)) := by rw [ev]; exact hI _ (490, 497, 0, 9) (by decide) (by show 490 ≤ _; omega) (by show _ ≤ 497; omega)
  have ik : ib 0 6 (lKind (wLw wd l)) := by rw [ek]; exact hI _ (482, 489, 0, 6) (by decide) (by show 482 ≤ _; omega) (by show _ ≤ 489; omega)
  have is : ib 0 3 (mS x ((170 : Int32) + nI a).toNatClampNeg) := by
    rw [show (170 : Int32) = nI 170 from rfl, cl2 (by omega)]
    exact hI _ (170, 185, 0, 3) (by decide) (by show 170 ≤ _; omega) (by show _ ≤ 185; omega)
  obtain ⟨st, es, s1, s2⟩ := is.nI_eq (by decide)
  have f0 : f_at 7 (wAs wd) (nI a) 0 = nI st := (show f_at 7 (wAs wd) (nI a) 0 = mS x ((170 : Int32) + nI a).toNatClampNeg from as_c hR ha (j := 0) (by decide)).trans es
  have f3 : f_at 7 (wAs wd) (nI a) 3 = mS x ((218 : Int32) + nI a).toNatClampNeg := as_c hR ha (j := 3) (by decide)
  have f4 : f_at 7 (wAs wd) (nI a) 4 = mS x ((234 : Int32) + nI a).toNatClampNeg := as_c hR ha (j := 4) (by decide)
  have hst : st < 4 := by omega
  have kb := kv_bit (r_isKept x (nI l) (nI c) (nI 0) gg) (r_isKept x (nI l) (nI c) (nI 1) gg) (r_isKept x (nI l) (nI c) (nI 2) gg) (r_isKept x (nI l) (nI c) (nI 3) gg) st hst
  rw [sel4_at (fun k => r_isKept x (nI l) (nI c) (nI k) gg) hst] at kb
  have ke := kv_each (r_isKept x (nI l) (nI c) (nI 0) gg) (r_isKept x (nI l) (nI c) (nI 1) gg) (r_isKept x (nI l) (nI c) (nI 2) gg) (r_isKept x (nI l) (nI c) (nI 3) gg) st hst
  rw [← each_at x (nI l) (nI c) gg hst] at ke
  unfold w_toldByKind r_byKind
  rw [kept_eq hI hO hR hl hc hg, e1, e2, f0, es, f3, f4, nI_clamp (by omega)]
  obtain ⟨κ, ekk, k1, k2⟩ := ik.nI_eq (by decide)
  rw [ekk]
  have kk := keeping_eq hR ha kb
  have k6 := keeping_eq hR ha ke
  have tr : f_at 7 (wAs wd) (nI a) 6 + 1 = r_byKeeping x (nI a) true := by
    unfold r_byKeeping
    rw [if_pos rfl, show f_at 7 (wAs wd) (nI a) 6 = mS x ((266 : Int32) + nI a).toNatClampNeg from as_c hR ha (j := 6) (by decide)]
  have q2 : (if True then (1 : Int32) else 0) = 1 := if_pos trivial
  match κ, k2 with
  | 0, _ =>
    simp only [if_neg (show ¬ nI 0 = (1 : Int32) by decide), if_neg (show ¬ nI 0 = (2 : Int32) by decide), if_neg (show ¬ nI 0 = (3 : Int32) by decide), if_neg (show ¬ nI 0 = (4 : Int32) by decide), if_neg (show ¬ nI 0 = (5 : Int32) by decide), if_neg (show ¬ nI 0 = (6 : Int32) by decide)]
  | 1, _ =>
    simp only [if_pos (show nI 1 = (1 : Int32) from rfl), if_neg (show ¬ nI 1 = (2 : Int32) by decide), if_neg (show ¬ nI 1 = (3 : Int32) by decide), if_neg (show ¬ nI 1 = (4 : Int32) by decide), if_neg (show ¬ nI 1 = (5 : Int32) by decide), if_neg (show ¬ nI 1 = (6 : Int32) by decide)]
    exact looks_eq hR ha iv
  | 2, _ =>
    simp only [if_neg (show ¬ nI 2 = (1 : Int32) by decide), if_pos (show nI 2 = (2 : Int32) from rfl), if_neg (show ¬ nI 2 = (3 : Int32) by decide), if_neg (show ¬ nI 2 = (4 : Int32) by decide), if_neg (show ¬ nI 2 = (5 : Int32) by decide), if_neg (show ¬ nI 2 = (6 : Int32) by decide)]
    exact kk
  | 3, _ =>
    simp only [if_neg (show ¬ nI 3 = (1 : Int32) by decide), if_neg (show ¬ nI 3 = (2 : Int32) by decide), if_pos (show nI 3 = (3 : Int32) from rfl), if_neg (show ¬ nI 3 = (4 : Int32) by decide), if_neg (show ¬ nI 3 = (5 : Int32) by decide), if_neg (show ¬ nI 3 = (6 : Int32) by decide)]
    rw [kk]
    exact asked_eq hR ha _
  | 4, _ =>
    simp only [if_neg (show ¬ nI 4 = (1 : Int32) by decide), if_neg (show ¬ nI 4 = (2 : Int32) by decide), if_neg (show ¬ nI 4 = (3 : Int32) by decide), if_pos (show nI 4 = (4 : Int32) from rfl), if_neg (show ¬ nI 4 = (5 : Int32) by decide), if_neg (show ¬ nI 4 = (6 : Int32) by decide)]
    rw [looks_eq hR ha iv]
  | 5, _ =>
    simp only [if_neg (show ¬ nI 5 = (1 : Int32) by decide), if_neg (show ¬ nI 5 = (2 : Int32) by decide), if_neg (show ¬ nI 5 = (3 : Int32) by decide), if_neg (show ¬ nI 5 = (4 : Int32) by decide), if_pos (show nI 5 = (5 : Int32) from rfl), if_neg (show ¬ nI 5 = (6 : Int32) by decide)]
    rw [kk]
    by_cases qe : mS x ((218 : Int32) + nI a).toNatClampNeg = 1
    · rw [if_pos qe, if_pos qe]
      by_cases qa : gg < 6 * lV (wLw wd l)
      · rw [if_pos qa, if_pos qa]
        cases r_isKept x (nI l) (nI c) (nI st) gg <;> rfl
      · rw [if_neg qa, if_neg qa, tr]
        cases r_isKept x (nI l) (nI c) (nI st) gg <;> rfl
    · rw [if_neg qe, if_neg qe]
      cases r_isKept x (nI l) (nI c) (nI st) gg <;> rfl
  | 6, _ =>
    simp only [if_neg (show ¬ nI 6 = (1 : Int32) by decide), if_neg (show ¬ nI 6 = (2 : Int32) by decide), if_neg (show ¬ nI 6 = (3 : Int32) by decide), if_neg (show ¬ nI 6 = (4 : Int32) by decide), if_neg (show ¬ nI 6 = (5 : Int32) by decide), if_pos (show nI 6 = (6 : Int32) from rfl)]
    rw [k6]
    exact asked_eq hR ha _

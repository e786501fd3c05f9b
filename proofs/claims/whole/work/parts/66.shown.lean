/-! steps of children, ages, what spreads: alike -/
def sM (v : Int32) : Int32 := if v = -1 then 0 else if v = 1 then 1 else 2
def fitR (x : MT) (cc ss : Int32) (k : Nat) : Bool := if ((mS x) (282 + (nI k)).toNatClampNeg) = cc then if ((mS x) (170 + ((mS x) (322 + (nI k)).toNatClampNeg)).toNatClampNeg) = ss then if (r_isUnchanged x (nI k)) = true then true else false else false else false
theorem fit_eq {wd : WT} {x : MT} (hJ : mJ (mS x)) (hR : Rl wd (mS x)) {t : Nat} (ht : t < (wAn wd).1) (cc ss : Int32) : (if (f_at 5 (wAn wd) (nI t) 0) = cc then if (w_ofAsked wd (nI t) 0) = ss then if (w_ofAsked wd (nI t) 6) = 0 then true else false else false else false) = fitR x cc ss t := by
  unfold fitR
  rw [show f_at 5 (wAn wd) (nI t) 0 = mS x ((282 : Int32) + nI t).toNatClampNeg from an_c hR ht (j := 0) (by decide), show w_ofAsked wd (nI t) 0 = mS x ((170 : Int32) + mS x (322 + nI t).toNatClampNeg).toNatClampNeg from Rl.ofA hJ hR ht (j := 0) (by decide)]
  have u := unch_eq hJ hR ht
  by_cases p : w_ofAsked wd (nI t) 6 = 0
  · rw [if_pos p, if_pos (u.mp p)]
  · rw [if_neg p, if_neg (fun z => p (u.mpr z))]
theorem stepIt_st (x : MT) (cc ss : Int32) (k : Nat) (sh : Int32) : r_stepIt_st x cc ss k sh = if fitR x cc ss k = true then (if (mS x (362 + nI k).toNatClampNeg) = 1 then (if sh = -1 then 1 else sh) else 0) else sh := by
  unfold r_stepIt_st fitR
  by_cases a : ((mS x) (282 + (nI k)).toNatClampNeg) = cc
  · rw [if_pos a, if_pos a]
    by_cases b : ((mS x) (170 + ((mS x) (322 + (nI k)).toNatClampNeg)).toNatClampNeg) = ss
    · rw [if_pos b, if_pos b]
      by_cases c : r_isUnchanged x (nI k) = true
      · rw [if_pos c, if_pos c, if_pos rfl]
      · rw [if_neg c, if_neg c, if_neg (by decide)]
    · rw [if_neg b, if_neg b, if_neg (by decide)]
  · rw [if_neg a, if_neg a, if_neg (by decide)]
theorem step_0 (x : MT) (cc ss : Int32) : ∀ n k : Nat, r_stepIt x cc ss (-1) k = 0 → r_stepIt x cc ss (-1) (k + n) = 0
  | 0, k, h => h
  | n + 1, k, h => by
    have ih := step_0 x cc ss n (k + 1) (by
      show r_stepIt_st x cc ss k (r_stepIt x cc ss (-1) k) = 0
      rw [h, stepIt_st]
      split
      · split
        · rw [if_neg (by decide)]
        · rfl
      · rfl)
    rw [show k + (n + 1) = k + 1 + n by omega]
    exact ih
theorem step_go {wd : WT} {x : MT} (hJ : mJ (mS x)) (hR : Rl wd (mS x)) (cc ss : Int32) : ∀ (n k : Nat) (v : Int32), (v = -1 ∨ v = 1) → k + n = (wAn wd).1 → r_stepIt x cc ss (-1) k = v → w_stepGo wd cc ss n k (sM v) = sM (r_stepIt x cc ss (-1) (wAn wd).1)
  | 0, k, v, hv, h, e => by rw [w_stepGo_0, ← e, show k = (wAn wd).1 by omega]
  | n + 1, k, v, hv, h, e => by
    have hk : k < (wAn wd).1 := by omega
    have e1 : r_stepIt x cc ss (-1) (k + 1) = r_stepIt_st x cc ss k v := by rw [← e]; rfl
    rw [stepIt_st] at e1
    rw [w_stepGo_s, fit_eq hJ hR hk, same_eq hR hk]
    cases hf : fitR x cc ss k with
    | false =>
      rw [hf] at e1
      rw [if_neg (by decide), if_neg (by decide)]
      exact step_go hJ hR cc ss n (k + 1) v hv (by omega) e1
    | true =>
      rw [hf, if_pos rfl] at e1
      rw [if_pos rfl, if_pos rfl]
      by_cases q : mS x (362 + nI k).toNatClampNeg = 1
      · rw [if_pos q] at e1
        rw [if_pos q, if_pos rfl]
        have e2 : (if v = -1 then (1 : Int32) else v) = 1 := by rcases hv with rfl | rfl <;> decide
        rw [e2] at e1
        exact step_go hJ hR cc ss n (k + 1) 1 (.inr rfl) (by omega) e1
      · rw [if_neg q] at e1
        rw [if_neg q, if_neg (by decide)]
        have z := step_0 x cc ss n (k + 1) e1
        rw [show k + 1 + n = (wAn wd).1 by omega] at z
        rw [z]
        rfl
theorem step_eq {wd : WT} {x : MT} (hJ : mJ (mS x)) (hR : Rl wd (mS x)) (cc ss : Int32) : w_stepOf wd cc ss = sM (r_step x cc ss) := by
  unfold w_stepOf r_step
  rw [hR.n2]
  exact step_go hJ hR cc ss (wAn wd).1 0 (-1) (.inl rfl) (by omega) rfl
theorem step_v (x : MT) (cc ss : Int32) : ∀ k : Nat, r_stepIt x cc ss (-1) k = -1 ∨ r_stepIt x cc ss (-1) k = 1 ∨ r_stepIt x cc ss (-1) k = 0
  | 0 => .inl rfl
  | k + 1 => by
    have ih := step_v x cc ss k
    have e : r_stepIt x cc ss (-1) (k + 1) = r_stepIt_st x cc ss k (r_stepIt x cc ss (-1) k) := rfl
    rw [e, stepIt_st]
    split
    · split
      · split
        · exact .inr (.inl rfl)
        · exact ih
      · exact .inr (.inr rfl)
    · exact ih
theorem sM_1 {x : MT} {cc ss : Int32} : (sM (r_step x cc ss) = 1 ↔ r_step x cc ss = 1) ∧ (sM (r_step x cc ss) = 2 ↔ r_step x cc ss = 0) := by
  have h := step_v x cc ss (((mS x) (2 : Int32).toNatClampNeg).toNatClampNeg)
  unfold r_step
  rcases h with h | h | h <;> rw [h] <;> decide
theorem once_j {wd : WT} {x : MT} (hJ : mJ (mS x)) (hR : Rl wd (mS x)) (c : Nat) : ∀ j : Nat, w_onceIt wd (nI c) 0 0 j = r_onceJt x c 0 0 j
  | 0 => rfl
  | j + 1 => by
    have ih := once_j hJ hR c j
    show w_onceIt_st wd (nI c) j (w_onceIt wd (nI c) 0 0 j).1 (w_onceIt wd (nI c) 0 0 j).2 = r_onceJt_st x c j (r_onceJt x c 0 0 j).1 (r_onceJt x c 0 0 j).2
    rw [ih]
    unfold w_onceIt_st r_onceJt_st
    rw [step_eq hJ hR]
    have h := @sM_1 x (nI c) (nI j)
    congr 2
    · by_cases q : r_step x (nI c) (nI j) = 1
      · rw [if_pos q, if_pos (h.1.mpr q)]
      · rw [if_neg q, if_neg (fun z => q (h.1.mp z))]
    · by_cases q : r_step x (nI c) (nI j) = 0
      · rw [if_pos q, if_pos (h.2.mpr q)]
      · rw [if_neg q, if_neg (fun z => q (h.2.mp z))]
theorem lt2 (v : Int32) : v < 2 ↔ v ≤ 1 := by
  rw [i32lt, i32le]
  have h1 : (1 : Int32).toInt = 1 := rfl
  have h2 : (2 : Int32).toInt = 2 := rfl
  omega
theorem once_it {wd : WT} {x : MT} (hJ : mJ (mS x)) (hR : Rl wd (mS x)) : ∀ k : Nat, w_allIt wd 0 k = r_onceIt x 0 k
  | 0 => rfl
  | k + 1 => by
    have ih := once_it hJ hR k
    show w_allIt_st wd k (w_allIt wd 0 k) = r_onceIt_st x k (r_onceIt x 0 k)
    rw [ih]
    unfold w_allIt_st r_onceIt_st w_isAllAtOnce
    rw [once_j hJ hR k 4]
    by_cases a : (r_onceJt x k 0 0 4).1 + (r_onceJt x k 0 0 4).2 ≤ 1
    · rw [if_pos a, if_pos ((lt2 _).mpr a), if_neg (by decide), or0]
    · rw [if_neg a, if_neg (fun z => a ((lt2 _).mp z))]
      by_cases b : (r_onceJt x k 0 0 4).1 = 0
      · rw [if_pos b, if_pos b, if_pos rfl]
      · rw [if_neg b, if_neg b]
        by_cases c : (r_onceJt x k 0 0 4).2 = 0
        · rw [if_pos c, if_pos c, if_pos rfl]
        · rw [if_neg c, if_neg c, if_neg (by decide), or0]
theorem eq_once {wd : WT} {x : MT} (hJ : mJ (mS x)) (hR : Rl wd (mS x)) : s_once wd = r_once x := by
  unfold s_once w_allAtOnce r_once
  rw [hR.n0]
  exact once_it hJ hR _
theorem order_it {wd : WT} {x : MT} (hJ : mJ (mS x)) (hR : Rl wd (mS x)) (kk jj : Int32) : ∀ k : Nat, w_shbIt wd kk jj 0 k = r_orderIt x kk jj 0 k
  | 0 => rfl
  | k + 1 => by
    have ih := order_it hJ hR kk jj k
    show w_shbIt_st wd kk jj k (w_shbIt wd kk jj 0 k) = r_orderIt_st x kk jj k (r_orderIt x kk jj 0 k)
    rw [ih]
    unfold w_shbIt_st r_orderIt_st
    rw [step_eq hJ hR, step_eq hJ hR]
    have h1 := (@sM_1 x (nI k) kk).1
    have h2 := (@sM_1 x (nI k) jj).2
    by_cases a : r_step x (nI k) kk = 1
    · rw [if_pos (h1.mpr a), if_pos a]
      by_cases b : r_step x (nI k) jj = 0
      · rw [if_pos (h2.mpr b), if_pos b]; rfl
      · rw [if_neg (fun z => b (h2.mp z)), if_neg b]; exact (Int32.add_zero _).symm
    · rw [if_neg (fun z => a (h1.mp z)), if_neg a]; exact (Int32.add_zero _).symm
theorem eq_order {wd : WT} {x : MT} (hJ : mJ (mS x)) (hR : Rl wd (mS x)) (kk jj : Int32) : s_order wd kk jj = r_order x kk jj := by
  unfold s_order w_shownBefore r_order
  rw [isStuff_eq, isStuff_eq, hR.n0, order_it hJ hR]

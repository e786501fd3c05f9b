/-! act: alike, and what it leaves is alike -/
theorem refA_0 (x : MT) (k : Nat) (nu tv xx : Int32) : refA k 0 nu tv xx (mBo x) = r_rulesActs (nI k) nu tv xx 0 (mBo x) := rfl
theorem refA_1 (x : MT) (k : Nat) (nu tv xx : Int32) : refA k 1 nu tv xx (mBo x) = r_readsActs (nI k) nu tv xx 0 (mBo x) := rfl
theorem refA_2 (x : MT) (k : Nat) (nu tv xx : Int32) : refA k 2 nu tv xx (mBo x) = r_answersActs (nI k) nu tv xx 0 (mBo x) := rfl
theorem r_act_eq (x : MT) {l a k : Nat} (ha : a < 3) (xx : Int32) (hl : r_isLaw x (nI l) = true) (e : mS x (482 + nI l).toNatClampNeg = nI k) : r_act x (nI l) (nI a) xx = ((refA k a (nI l) (mS x (490 + nI l).toNatClampNeg) xx (mBo x)).1, nI k, nI l, mS x (490 + nI l).toNatClampNeg, nI (refA k a (nI l) (mS x (490 + nI l).toNatClampNeg) xx (mBo x)).2.1, (refA k a (nI l) (mS x (490 + nI l).toNatClampNeg) xx (mBo x)).2.2) := by
  unfold r_act
  rw [if_pos hl, e]
  match a, ha with
  | 0, _ => rw [refA_0, if_pos (by decide), if_pos (by decide)]
  | 1, _ => rw [refA_1, if_pos (by decide), if_neg (by decide), if_pos (by decide)]
  | 2, _ => rw [refA_2, if_pos (by decide), if_neg (by decide), if_neg (by decide)]
theorem eq_act {wd wt : WT} {tk : Bool} {rn : Nat} {bo : Nat → Int32} {x : MT} (h : Inv9 wd wt tk rn bo x) (l a xx : Int32) : (s_act wd l a xx rn bo).1 = (r_act x l a xx).1 ∧ Inv9 wd wt tk (s_act wd l a xx rn bo).2.1 (s_act wd l a xx rn bo).2.2 (mAct x (r_act x l a xx).2.1 (r_act x l a xx).2.2.1 (r_act x l a xx).2.2.2.1 (r_act x l a xx).2.2.2.2.1 (r_act x l a xx).2.2.2.2.2) := by
  obtain ⟨hR, hJ, hB, hB2, ht, htk, h1, h2, h3⟩ := h
  have no : ∀ {b : Nat → Int32}, Inv9 wd wt tk 0 b (mAct x (mKi x) (mNu x) (mTv x) 0 (mBo x)) := fun {b} => ⟨hR, hJ, hB, hB2, ht, htk, rfl, by decide, fun j hj _ => absurd hj (Nat.not_lt_zero _)⟩
  by_cases q1 : w_hasLaw wd l = true
  · by_cases q2 : r_in a 0 2 = true
    · obtain ⟨l, rfl, hl⟩ := law_ex q1 hR.c3.2
      have hl8 := hR.c3.2
      obtain ⟨a, ea, a0, a2⟩ := (in9_ib q2).nI_eq (by decide)
      subst ea
      have a2 : (a : Int) ≤ 2 := a2
      obtain ⟨k, hk, e1, e2⟩ := hR.kind hJ hl
      obtain ⟨en, -, ev, -⟩ := hR.lw hl
      have k490 : ((490 : Int32) + nI l).toNatClampNeg = 490 + l := by rw [show (490 : Int32) = nI 490 from rfl, cl2 (by omega)]
      have er : r_isLaw x (nI l) = true := (isLaw_eq hR (nI l)).trans q1
      rw [r_act_eq x (show a < 3 by omega) xx er e2, k490, ← ev]
      obtain ⟨K, k1, k2, k3, k4, k5⟩ := act_all hk (show a < 3 by omega) (nI l) (lV (wLw wd l)) xx bo (mBo x)
      unfold s_act
      rw [if_pos q1, if_neg (show ¬ nI a < 0 from nI_pos (by omega)), if_pos (show nI a < 3 from nI_lt (b := 3) (by omega) (by decide)), nI_clamp (by omega), runO_eq, e1, en]
      generalize runO (nI k) (nI l) (lV (wLw wd l)) 41 (nI k) (nI a) xx 0 bo = g at k2 k5 ⊢
      generalize refA k a (nI l) (lV (wLw wd l)) xx (mBo x) = r at k2 k4 k5 ⊢
      rw [k3, k4, Nat.zero_add]
      exact ⟨k2, hR, hJ, hB, hB2, ht, htk, rfl, k1, k5⟩
    · have es : s_act wd l a xx rn bo = (0, 0, bo) := by
        unfold s_act
        rw [if_pos q1]
        by_cases p : a < 0
        · rw [if_pos p]
        · rw [if_neg p]
          by_cases z : a < 3
          · exact absurd (ge9_in p (i32le.mpr (by have := i32lt.mp z; have e3 : (3 : Int32).toInt = 3 := rfl; have e2 : (2 : Int32).toInt = 2 := rfl; omega))) q2
          · rw [if_neg z]
      have er : r_act x l a xx = (0, mKi x, mNu x, mTv x, 0, mBo x) := by
        unfold r_act
        rw [isLaw_eq hR, if_pos q1, if_neg q2]
      rw [es, er]
      exact ⟨rfl, no⟩
  · have es : s_act wd l a xx rn bo = (0, 0, bo) := by
      unfold s_act
      rw [if_neg q1]
    have er : r_act x l a xx = (0, mKi x, mNu x, mTv x, 0, mBo x) := by
      unfold r_act
      rw [isLaw_eq hR, if_neg q1]
    rw [es, er]
    exact ⟨rfl, no⟩

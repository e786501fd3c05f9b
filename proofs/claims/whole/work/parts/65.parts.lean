/-! parts, rule, odds of a set, the likeliest -/
theorem partIn_eq {wd : WT} {x : MT} (hJ : mJ (mS x)) (hR : Rl wd (mS x)) {l o c : Nat} (hl : l < wLc wd) (ho : o < wLc wd) (hc : c < (wCh wd).1) (p : Int32) : ∀ j : Nat, j ≤ (wAs wd).1 → w_partIn wd (nI l) (nI o) c p j = r_partsIt x (nI l) (nI o) c p j
  | 0, _ => rfl
  | j + 1, h => by
    have ih := partIn_eq hJ hR hl ho hc p j (by omega)
    show w_partIn_st wd (nI l) (nI o) c j (w_partIn wd (nI l) (nI o) c p j) = r_partsIt_st x (nI l) (nI o) c j (r_partsIt x (nI l) (nI o) c p j)
    rw [ih]
    unfold w_partIn_st r_partsIt_st
    rw [toldNow_eq hJ hR hl hc (show j < (wAs wd).1 by omega), toldNow_eq hJ hR ho hc (show j < (wAs wd).1 by omega)]
    by_cases q : r_tellsOf x (nI l) (nI c) (nI j) (mS x (130 + nI c).toNatClampNeg) = r_tellsOf x (nI o) (nI c) (nI j) (mS x (130 + nI c).toNatClampNeg)
    · rw [if_pos q, if_pos q]; exact (Int32.add_zero _).symm
    · rw [if_neg q, if_neg q]; rfl
theorem parts_go {wd : WT} {x : MT} (hJ : mJ (mS x)) (hR : Rl wd (mS x)) {l o : Nat} (hl : l < wLc wd) (ho : o < wLc wd) : ∀ n k : Nat, k + n = (wCh wd).1 → r_partsGo x (nI l) (nI o) n k (w_partOut wd (nI l) (nI o) 0 k) = w_partOut wd (nI l) (nI o) 0 (wCh wd).1
  | 0, k, h => by rw [r_partsGo_0, show k = (wCh wd).1 by omega]
  | n + 1, k, h => by
    have ih := parts_go hJ hR hl ho n (k + 1) (by omega)
    rw [← ih, r_partsGo_s, hR.n1]
    have e : w_partOut wd (nI l) (nI o) 0 (k + 1) = w_partIn wd (nI l) (nI o) k (w_partOut wd (nI l) (nI o) 0 k) (wAs wd).1 := rfl
    rw [e, partIn_eq hJ hR hl ho (show k < (wCh wd).1 by omega) _ _ (Nat.le_refl _)]
theorem eq_parts {wd : WT} {x : MT} (hJ : mJ (mS x)) (hR : Rl wd (mS x)) (l o : Int32) : s_parts wd l o = r_parts x l o := by
  unfold s_parts r_parts
  rw [isLaw_eq hR, isLaw_eq hR]
  by_cases q1 : w_hasLaw wd l = true
  · rw [if_pos q1, if_pos q1]
    by_cases q2 : w_hasLaw wd o = true
    · rw [if_pos q2, if_pos q2]
      obtain ⟨l, rfl, hl⟩ := law_ex q1 hR.c3.2
      obtain ⟨o, rfl, ho⟩ := law_ex q2 hR.c3.2
      unfold w_partings
      rw [hR.n0]
      exact (parts_go hJ hR hl ho _ 0 (by omega)).symm
    · rw [if_neg q2, if_neg q2]
  · rw [if_neg q1, if_neg q1]
theorem answ_go {wd : WT} {x : MT} (hR : Rl wd (mS x)) (ch : Int32) : ∀ n k : Nat, k + n = (wAn wd).1 → (r_ruleAny x ch false k || w_answGo wd ch n k) = r_ruleAny x ch false (wAn wd).1
  | 0, k, h => by rw [w_answGo_0, show k = (wAn wd).1 by omega, Bool.or_false]
  | n + 1, k, h => by
    have ih := answ_go hR ch n (k + 1) (by omega)
    rw [← ih, w_answGo_s]
    have e : r_ruleAny x ch false (k + 1) = (if r_ruleAny x ch false k = true then true else if mS x (282 + nI k).toNatClampNeg = ch then true else false) := rfl
    rw [e, show f_at 5 (wAn wd) (nI k) 0 = mS x ((282 : Int32) + nI k).toNatClampNeg from an_c hR (show k < (wAn wd).1 by omega) (j := 0) (by decide)]
    by_cases p : mS x ((282 : Int32) + nI k).toNatClampNeg = ch
    · rw [if_pos p, if_pos p]; cases r_ruleAny x ch false k <;> rfl
    · rw [if_neg p, if_neg p]; cases r_ruleAny x ch false k <;> rfl
theorem rule_go {wd : WT} {x : MT} (hJ : mJ (mS x)) (hR : Rl wd (mS x)) (ch : Int32) (hA : r_ruleAny x ch false (wAn wd).1 = true) : ∀ n k : Nat, k + n = wLc wd → r_ruleGo x ch n k (w_ruleIt wd ch (-5) (-1) k).1 (w_ruleIt wd ch (-5) (-1) k).2 = (w_ruleIt wd ch (-5) (-1) (wLc wd)).1
  | 0, k, h => by rw [r_ruleGo_0, show k = wLc wd by omega]
  | n + 1, k, h => by
    have ih := rule_go hJ hR ch hA n (k + 1) (by omega)
    rw [← ih, r_ruleGo_s, hR.n2, if_pos hA]
    have e : w_ruleIt wd ch (-5) (-1) (k + 1) = w_ruleIt_st wd ch k (w_ruleIt wd ch (-5) (-1) k).1 (w_ruleIt wd ch (-5) (-1) k).2 := rfl
    rw [e]
    unfold w_ruleIt_st
    rw [rightOf_eq hJ hR (show k < wLc wd by omega) ch]
theorem eq_rule {wd : WT} {x : MT} (hJ : mJ (mS x)) (hR : Rl wd (mS x)) (c : Int32) : s_rule wd c = r_rule x c := by
  unfold s_rule r_rule
  rw [isChild_eq hR]
  by_cases q : f_has (wCh wd) c = true
  · rw [if_pos q, if_pos q, hR.n3]
    unfold w_ruleOf w_hasAnswered
    have ha := answ_go hR c (wAn wd).1 0 (by omega)
    have h0 : r_ruleAny x c false 0 = false := rfl
    rw [h0, Bool.false_or] at ha
    rw [ha]
    by_cases p : r_ruleAny x c false (wAn wd).1 = true
    · rw [if_pos p]
      exact (rule_go hJ hR c p (wLc wd) 0 (by omega)).symm
    · rw [if_neg p]
      cases wLc wd with
      | zero => rfl
      | succ n => rw [r_ruleGo_s, hR.n2, if_neg p]
  · rw [if_neg q, if_neg q]
theorem odds_go {wd : WT} {x : MT} (hJ : mJ (mS x)) (hR : Rl wd (mS x)) {l : Nat} (hl : l < wLc wd) {set : Int32} (hs : ∀ k, k < 30 → (set >>> (nI k &&& 31)) &&& 1 = 1 → k < (wAn wd).1) : ∀ n k : Nat, k + n = 30 → r_oddsGo x (nI l) set n k (w_oddsIt wd (nI l) set 1 k) = w_oddsIt wd (nI l) set 1 30
  | 0, k, h => by rw [r_oddsGo_0, show k = 30 by omega]
  | n + 1, k, h => by
    have ih := odds_go hJ hR hl hs n (k + 1) (by omega)
    rw [← ih, r_oddsGo_s]
    have e : w_oddsIt wd (nI l) set 1 (k + 1) = w_oddsIt_st wd (nI l) set k (w_oddsIt wd (nI l) set 1 k) := rfl
    rw [e]
    unfold w_oddsIt_st
    by_cases q : (set >>> (nI k &&& 31)) &&& 1 = 1
    · rw [if_pos q, if_pos q, chance_eq hJ hR hl (hs k (by omega) q)]
    · rw [if_neg q, if_neg q]
theorem oddsOf_eq {wd : WT} {x : MT} (hJ : mJ (mS x)) (hR : Rl wd (mS x)) {l : Nat} (hl : l < wLc wd) {set : Int32} (hs : ∀ k, k < 30 → (set >>> (nI k &&& 31)) &&& 1 = 1 → k < (wAn wd).1) : w_oddsAbove wd (nI l) set = r_oddsOf x (nI l) set := by
  unfold w_oddsAbove r_oddsOf
  exact (odds_go hJ hR hl hs 30 0 rfl).symm
theorem like_go {wd : WT} {x : MT} (hJ : mJ (mS x)) (hR : Rl wd (mS x)) {set : Int32} (hs : ∀ k, k < 30 → (set >>> (nI k &&& 31)) &&& 1 = 1 → k < (wAn wd).1) : ∀ n k : Nat, k + n = wLc wd → r_likeGo x set n k (s_likeIt wd set (-5) (-1) k).1 (s_likeIt wd set (-5) (-1) k).2 = (s_likeIt wd set (-5) (-1) (wLc wd)).1
  | 0, k, h => by rw [r_likeGo_0, show k = wLc wd by omega]
  | n + 1, k, h => by
    have ih := like_go hJ hR hs n (k + 1) (by omega)
    rw [← ih, r_likeGo_s]
    have e : s_likeIt wd set (-5) (-1) (k + 1) = s_likeIt_st wd set k (s_likeIt wd set (-5) (-1) k).1 (s_likeIt wd set (-5) (-1) k).2 := rfl
    rw [e]
    unfold s_likeIt_st
    rw [oddsOf_eq hJ hR (show k < wLc wd by omega) hs]
/-! what answers show -/
theorem Rl.ofA {wd : WT} {x : MT} (hJ : mJ (mS x)) (h : Rl wd (mS x)) {t j : Nat} (ht : t < (wAn wd).1) (hj : j < 7) : w_ofAsked wd (nI t) (nI j) = mS x (nI (170 + 16 * j) + mS x (322 + nI t).toNatClampNeg).toNatClampNeg := by
  obtain ⟨-, ⟨a, ea, ha⟩, -⟩ := h.who hJ ht
  unfold w_ofAsked
  rw [show f_at 5 (wAn wd) (nI t) 1 = mS x ((322 : Int32) + nI t).toNatClampNeg from an_c h ht (j := 1) (by decide), ea]
  exact as_c h ha hj
theorem unch_eq {wd : WT} {x : MT} (hJ : mJ (mS x)) (hR : Rl wd (mS x)) {t : Nat} (ht : t < (wAn wd).1) : (w_ofAsked wd (nI t) 6 = 0 ↔ r_isUnchanged x (nI t) = true) := by
  unfold r_isUnchanged
  rw [show w_ofAsked wd (nI t) 6 = mS x ((266 : Int32) + mS x (322 + nI t).toNatClampNeg).toNatClampNeg from Rl.ofA hJ hR ht (j := 6) (by decide)]
  by_cases q : mS x ((266 : Int32) + mS x (322 + nI t).toNatClampNeg).toNatClampNeg = 0
  · simp [q]
  · simp [q]
theorem same_eq {wd : WT} {x : MT} (hR : Rl wd (mS x)) {t : Nat} (ht : t < (wAn wd).1) : w_isSame wd (nI t) = (if mS x (362 + nI t).toNatClampNeg = 1 then true else false) := by
  unfold w_isSame
  rw [show f_at 5 (wAn wd) (nI t) 2 = mS x ((362 : Int32) + nI t).toNatClampNeg from an_c hR ht (j := 2) (by decide)]
theorem or0 (v : Int32) : v ||| 0 = v := Int32.or_zero
theorem fooled_it {wd : WT} {x : MT} (hJ : mJ (mS x)) (hR : Rl wd (mS x)) : ∀ k : Nat, k ≤ (wAn wd).1 → w_foolIt wd 0 k = r_fooledIt x 0 k
  | 0, _ => rfl
  | k + 1, h => by
    have ih := fooled_it hJ hR k (by omega)
    show w_foolIt_st wd k (w_foolIt wd 0 k) = r_fooledIt_st x k (r_fooledIt x 0 k)
    rw [ih]
    unfold w_foolIt_st r_fooledIt_st
    rw [same_eq hR (show k < (wAn wd).1 by omega), show f_at 5 (wAn wd) (nI k) 0 = mS x ((282 : Int32) + nI k).toNatClampNeg from an_c hR (show k < (wAn wd).1 by omega) (j := 0) (by decide)]
    have u := unch_eq hJ hR (show k < (wAn wd).1 by omega)
    by_cases q : mS x (362 + nI k).toNatClampNeg = 1
    · rw [if_pos q, if_pos rfl, if_pos q]
      by_cases p : w_ofAsked wd (nI k) 6 = 0
      · rw [if_pos p, if_pos (u.mp p), or0]
      · rw [if_neg p, if_neg (fun z => p (u.mpr z))]
    · rw [if_neg q, if_neg (by decide), if_neg q]
      by_cases p : r_isUnchanged x (nI k) = true
      · rw [if_pos p, or0]
      · rw [if_neg p, or0]
theorem eq_fooled {wd : WT} {x : MT} (hJ : mJ (mS x)) (hR : Rl wd (mS x)) : s_fooled wd = r_fooled x := by
  unfold s_fooled w_fooledChildren r_fooled
  rw [hR.n2]
  exact fooled_it hJ hR _ (Nat.le_refl _)

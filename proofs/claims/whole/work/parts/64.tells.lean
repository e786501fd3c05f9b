/-! tells, and what counts on it -/
/-- who answered, and what, stand among the children and askings -/
def mQ (s : Nat → Int32) : Prop := ∀ t : Nat, (t : Int) < (s 2).toInt → (s (282 + t)).toInt < (s 0).toInt ∧ (s (322 + t)).toInt < (s 1).toInt
/-- the invariants of the reference's row -/
def mJ (s : Nat → Int32) : Prop := mI s ∧ mO s ∧ mW s ∧ mQ s
theorem has_true {x : RwT} {n : Nat} (h : n < x.1) (hx : x.1 ≤ 1000) : f_has x (nI n) = true := by
  unfold f_has
  rw [if_neg (nI_pos (by omega)), if_neg (nI_ge h (by omega))]
theorem law_true {wd : WT} {l : Nat} (h : l < wLc wd) (hl : wLc wd ≤ 8) : w_hasLaw wd (nI l) = true := by
  rw [hasLaw_has hl]
  exact has_true h (show wLc wd ≤ 1000 by omega)
theorem Rl.wf {wd : WT} {s : Nat → Int32} (h : Rl wd s) (hJ : mJ s) {l : Nat} (hl : l < wLc wd) : wfL s l := by
  have h8 := h.c3.2
  exact hJ.2.2.1 l (by rw [h.c3.1, nI_toInt (by omega)]; omega)
theorem tells_eq {wd : WT} {x : MT} (hJ : mJ (mS x)) (hR : Rl wd (mS x)) {l c a : Nat} (hl : l < wLc wd) (hc : c < (wCh wd).1) (ha : a < (wAs wd).1) {gg : Int32} (hg : ib 0 219 gg) : w_toldAt wd (nI l) (nI c) (nI a) gg = r_tellsOf x (nI l) (nI c) (nI a) gg := by
  have hl8 := hR.c3.2
  obtain ⟨-, -, -, -, -, -, -, ⟨e1, hc2⟩, -⟩ := hR.lw hl
  unfold w_toldAt r_tellsOf
  rw [if_pos (law_true hl hl8), nI_clamp (by omega), said_eq hR hl ha gg (hR.wf hJ hl), kind_eq hJ.1 hJ.2.1 hR hl hc ha hg]
  have hs : sayV x (nI l) (nI a) gg = -1 ∨ ib 0 2 (sayV x (nI l) (nI a) gg) := by
    unfold sayV
    rw [nI_clamp (by omega), show (786 : Int32) = nI 786 from rfl, cl2 (by omega), e1, nI_clamp (by omega)]
    exact sayL_ib hJ.1 (nI a) gg _ _ _ (by omega) (by omega)
  rcases hs with e | e
  · rw [if_pos e, if_pos (by rw [e]; decide)]
  · have z1 : ¬ sayV x (nI l) (nI a) gg = -1 := fun z => by rw [z] at e; exact absurd e.1 (by decide)
    have z2 : ¬ sayV x (nI l) (nI a) gg < 0 := fun z => by have := i32lt.mp z; have h0 : (0 : Int32).toInt = 0 := rfl; have := e.1; omega
    rw [if_neg z1, if_neg z2]
theorem Rl.ageb {wd : WT} {s : Nat → Int32} (h : Rl wd s) (hJ : mJ s) {c : Nat} (hc : c < (wCh wd).1) : ib 0 120 (s (130 + nI c).toNatClampNeg) := by
  have := h.c0.2
  rw [show (130 : Int32) = nI 130 from rfl, cl2 (by omega)]
  exact hJ.1 _ (130, 137, 0, 120) (by decide) (by show 130 ≤ _; omega) (by show _ ≤ 137; omega)
theorem toldNow_eq {wd : WT} {x : MT} (hJ : mJ (mS x)) (hR : Rl wd (mS x)) {l c a : Nat} (hl : l < wLc wd) (hc : c < (wCh wd).1) (ha : a < (wAs wd).1) : w_toldNow wd (nI l) (nI c) (nI a) = r_tellsOf x (nI l) (nI c) (nI a) (mS x (130 + nI c).toNatClampNeg) := by
  unfold w_toldNow
  rw [hR.age hc]
  exact tells_eq hJ hR hl hc ha ((hR.ageb hJ hc).weak (by decide) (by decide))
theorem eq_tells {wd : WT} {x : MT} (hJ : mJ (mS x)) (hR : Rl wd (mS x)) (l c a : Int32) : s_tells wd l c a = r_tells x l c a := by
  unfold s_tells r_tells
  rw [isLaw_eq hR, isChild_eq hR, isAsking_eq hR]
  by_cases q1 : w_hasLaw wd l = true
  · rw [if_pos q1, if_pos q1]
    by_cases q2 : f_has (wCh wd) c = true
    · rw [if_pos q2, if_pos q2]
      by_cases q3 : f_has (wAs wd) a = true
      · rw [if_pos q3, if_pos q3]
        obtain ⟨l, rfl, hl⟩ := law_ex q1 hR.c3.2
        obtain ⟨c, rfl, hc⟩ := has_ex q2 (by have := hR.c0.2; omega)
        obtain ⟨a, rfl, ha⟩ := has_ex q3 (by have := hR.c1.2; omega)
        exact toldNow_eq hJ hR hl hc ha
      · rw [if_neg q3, if_neg q3]
    · rw [if_neg q2, if_neg q2]
  · rw [if_neg q1, if_neg q1]
theorem eq_keeps {wd : WT} {x : MT} (hJ : mJ (mS x)) (hR : Rl wd (mS x)) (l c k : Int32) : s_keeps wd l c k = r_keeps x l c k := by
  unfold s_keeps r_keeps
  rw [isLaw_eq hR, isChild_eq hR, isStuff_eq]
  by_cases q1 : w_hasLaw wd l = true
  · rw [if_pos q1, if_pos q1]
    by_cases q2 : f_has (wCh wd) c = true
    · rw [if_pos q2, if_pos q2]
      by_cases q3 : f_isStuff k = true
      · rw [if_pos q3, if_pos q3]
        have hl8 := hR.c3.2
        obtain ⟨l, rfl, hl⟩ := law_ex q1 hR.c3.2
        obtain ⟨c, rfl, hc⟩ := has_ex q2 (by have := hR.c0.2; omega)
        obtain ⟨k, rfl, hk⟩ := stuff_ex q3
        rw [hR.age hc, nI_clamp (by omega), kept_eq hJ.1 hJ.2.1 hR hl hc ((hR.ageb hJ hc).weak (by decide) (by decide))]
        have key : ∀ a b d e : Bool, ∀ j : Nat, j < 4 → (kv a b d e >>> (nI j &&& 31)) &&& 1 = b2i (if sel4 a b d e j = true then true else false) := by decide
        rw [key _ _ _ _ k hk, sel4_at (fun k => r_isKept x (nI l) (nI c) (nI k) (mS x (130 + nI c).toNatClampNeg)) hk]
      · rw [if_neg q3, if_neg q3]
    · rw [if_neg q2, if_neg q2]
  · rw [if_neg q1, if_neg q1]
theorem an_c {wd : WT} {x : MT} (hR : Rl wd (mS x)) {t : Nat} (ht : t < (wAn wd).1) {j : Nat} (hj : j < 5) : f_at 5 (wAn wd) (nI t) (nI j) = mS x (nI (282 + 40 * j) + nI t).toNatClampNeg := by
  have := hR.c2.2
  rw [hR.ans ht hj, cl2 (by omega)]
theorem Rl.who {wd : WT} {s : Nat → Int32} (h : Rl wd s) (hJ : mJ s) {t : Nat} (ht : t < (wAn wd).1) : (∃ c, s (282 + nI t).toNatClampNeg = nI c ∧ c < (wCh wd).1) ∧ (∃ a, s (322 + nI t).toNatClampNeg = nI a ∧ a < (wAs wd).1) ∧ ib 0 120 (s (442 + nI t).toNatClampNeg) := by
  have h2 := h.c2.2
  have h0 := h.c0.2
  have h1 := h.c1.2
  rw [show (282 : Int32) = nI 282 from rfl, show (322 : Int32) = nI 322 from rfl, show (442 : Int32) = nI 442 from rfl, cl2 (by omega), cl2 (by omega), cl2 (by omega)]
  obtain ⟨z1, z2⟩ := hJ.2.2.2 t (by rw [h.c2.1, nI_toInt (by omega)]; omega)
  have i1 : ib 0 7 (s (282 + t)) := hJ.1 _ (282, 321, 0, 7) (by decide) (by show 282 ≤ _; omega) (by show _ ≤ 321; omega)
  have i2 : ib 0 15 (s (322 + t)) := hJ.1 _ (322, 361, 0, 15) (by decide) (by show 322 ≤ _; omega) (by show _ ≤ 361; omega)
  obtain ⟨c, ec, c1, c2⟩ := i1.nI_eq (by decide)
  obtain ⟨a, ea, a1, a2⟩ := i2.nI_eq (by decide)
  rw [ec, h.c0.1, nI_toInt (by omega), nI_toInt (by omega)] at z1
  rw [ea, h.c1.1, nI_toInt (by omega), nI_toInt (by omega)] at z2
  exact ⟨⟨c, ec, by omega⟩, ⟨a, ea, by omega⟩, hJ.1 _ (442, 481, 0, 120) (by decide) (by show 442 ≤ _; omega) (by show _ ≤ 481; omega)⟩
theorem asTold_eq {wd : WT} {x : MT} (hJ : mJ (mS x)) (hR : Rl wd (mS x)) {l t : Nat} (hl : l < wLc wd) (ht : t < (wAn wd).1) : w_isAsTold wd (nI l) (nI t) = r_isAsTold x (nI l) (nI t) := by
  unfold w_isAsTold r_isAsTold
  obtain ⟨⟨c, ec, hc⟩, ⟨a, ea, ha⟩, hg⟩ := hR.who hJ ht
  rw [show f_at 5 (wAn wd) (nI t) 0 = mS x ((282 : Int32) + nI t).toNatClampNeg from an_c hR ht (j := 0) (by decide), show f_at 5 (wAn wd) (nI t) 1 = mS x ((322 : Int32) + nI t).toNatClampNeg from an_c hR ht (j := 1) (by decide), show f_at 5 (wAn wd) (nI t) 4 = mS x ((442 : Int32) + nI t).toNatClampNeg from an_c hR ht (j := 4) (by decide), show f_at 5 (wAn wd) (nI t) 2 = mS x ((362 : Int32) + nI t).toNatClampNeg from an_c hR ht (j := 2) (by decide), ec, ea, tells_eq hJ hR hl hc ha (hg.weak (by decide) (by decide))]
theorem chance_eq {wd : WT} {x : MT} (hJ : mJ (mS x)) (hR : Rl wd (mS x)) {l t : Nat} (hl : l < wLc wd) (ht : t < (wAn wd).1) : (w_chanceOf200 wd (nI l) (nI t)).toInt64 = r_chanceOf x (nI l) (nI t) := by
  have hl8 := hR.c3.2
  obtain ⟨-, -, -, es, -⟩ := hR.lw hl
  have e : mS x ((498 : Int32) + nI l).toNatClampNeg = lSlip (wLw wd l) := by rw [show (498 : Int32) = nI 498 from rfl, cl2 (by omega)]; exact es.symm
  unfold w_chanceOf200 r_chanceOf
  rw [if_pos (law_true hl hl8), nI_clamp (by omega), asTold_eq hJ hR hl ht, e]
  by_cases q : r_isAsTold x (nI l) (nI t) = true
  · rw [if_pos q, if_pos q]
  · rw [if_neg q, if_neg q]
theorem cmp_eq {a b : Int64} : lg_cmp a b = 0 ↔ a = b := by
  constructor
  · intro h
    unfold lg_cmp at h
    split at h
    · exact absurd h (by decide)
    · split at h
      · assumption
      · exact absurd h (by decide)
  · intro h
    subst h
    unfold lg_cmp
    rw [if_neg (fun z => by have := Int64.lt_iff_toInt_lt.mp z; omega), if_pos rfl]
theorem to64_0 {v : Int32} : v.toInt64 = 0 ↔ v = 0 := by
  constructor
  · intro h
    apply Int32.toInt_inj.mp
    have e := congrArg Int64.toInt h
    rw [Int32.toInt_toInt64] at e
    exact e
  · intro h; subst h; rfl
theorem right_go {wd : WT} {x : MT} (hJ : mJ (mS x)) (hR : Rl wd (mS x)) {l : Nat} (hl : l < wLc wd) (ch : Int32) : ∀ n k : Nat, k + n = (wAn wd).1 → r_rightGo x (nI l) ch n k (w_rightIt wd (nI l) ch 0 k) = w_rightIt wd (nI l) ch 0 (wAn wd).1
  | 0, k, h => by rw [r_rightGo_0, show k = (wAn wd).1 by omega]
  | n + 1, k, h => by
    have ih := right_go hJ hR hl ch n (k + 1) (by omega)
    rw [← ih, r_rightGo_s]
    have e : w_rightIt wd (nI l) ch 0 (k + 1) = w_rightIt_st wd (nI l) ch k (w_rightIt wd (nI l) ch 0 k) := rfl
    rw [e]
    unfold w_rightIt_st
    rw [asTold_eq hJ hR hl (show k < (wAn wd).1 by omega), show f_at 5 (wAn wd) (nI k) 0 = mS x ((282 : Int32) + nI k).toNatClampNeg from an_c hR (show k < (wAn wd).1 by omega) (j := 0) (by decide)]
    have z : ∀ v : Int32, v + b2i (if r_isAsTold x (nI l) (nI k) = true then true else false) = (if r_isAsTold x (nI l) (nI k) = true then v + 1 else v) := fun v => by
      cases r_isAsTold x (nI l) (nI k) with
      | true => rfl
      | false => exact Int32.add_zero v
    rw [z, Int32.add_zero]
    by_cases q : ch = -1
    · rw [if_pos q, if_pos q]
    · rw [if_neg q, if_neg q]
      by_cases p : mS x ((282 : Int32) + nI k).toNatClampNeg = ch
      · rw [if_pos p, if_pos p]
      · rw [if_neg p, if_neg p]
theorem Rl.n2 {wd : WT} {s : Nat → Int32} (h : Rl wd s) : (s (2 : Int32).toNatClampNeg).toNatClampNeg = (wAn wd).1 := by
  have := h.c2.2
  rw [show s (2 : Int32).toNatClampNeg = nI (wAn wd).1 from h.c2.1, nI_clamp (by omega)]
theorem Rl.n0 {wd : WT} {s : Nat → Int32} (h : Rl wd s) : (s (0 : Int32).toNatClampNeg).toNatClampNeg = (wCh wd).1 := by
  have := h.c0.2
  rw [show s (0 : Int32).toNatClampNeg = nI (wCh wd).1 from h.c0.1, nI_clamp (by omega)]
theorem Rl.n1 {wd : WT} {s : Nat → Int32} (h : Rl wd s) : (s (1 : Int32).toNatClampNeg).toNatClampNeg = (wAs wd).1 := by
  have := h.c1.2
  rw [show s (1 : Int32).toNatClampNeg = nI (wAs wd).1 from h.c1.1, nI_clamp (by omega)]
theorem Rl.n3 {wd : WT} {s : Nat → Int32} (h : Rl wd s) : (s (3 : Int32).toNatClampNeg).toNatClampNeg = wLc wd := by
  have := h.c3.2
  rw [show s (3 : Int32).toNatClampNeg = nI (wLc wd) from h.c3.1, nI_clamp (by omega)]
theorem rightOf_eq {wd : WT} {x : MT} (hJ : mJ (mS x)) (hR : Rl wd (mS x)) {l : Nat} (hl : l < wLc wd) (ch : Int32) : w_rightOf wd (nI l) ch = r_rightOf x (nI l) ch := by
  unfold w_rightOf r_rightOf
  rw [hR.n2]
  exact (right_go hJ hR hl ch _ 0 (by omega)).symm
theorem eq_right {wd : WT} {x : MT} (hJ : mJ (mS x)) (hR : Rl wd (mS x)) (l : Int32) : s_right wd l = r_right x l := by
  unfold s_right r_right
  rw [isLaw_eq hR]
  by_cases q : w_hasLaw wd l = true
  · rw [if_pos q, if_pos q]
    obtain ⟨l, rfl, hl⟩ := law_ex q hR.c3.2
    exact rightOf_eq hJ hR hl (-1)
  · rw [if_neg q, if_neg q]
theorem cannot_go {wd : WT} {x : MT} (hJ : mJ (mS x)) (hR : Rl wd (mS x)) {l : Nat} (hl : l < wLc wd) : ∀ n k : Nat, k + n = (wAn wd).1 → w_impGo wd (nI l) n k = r_cannotGo x (nI l) n k
  | 0, k, h => rfl
  | n + 1, k, h => by
    have ih := cannot_go hJ hR hl n (k + 1) (by omega)
    rw [r_cannotGo_s, w_impGo_s, ih, ← chance_eq hJ hR hl (show k < (wAn wd).1 by omega)]
    by_cases q : w_chanceOf200 wd (nI l) (nI k) = 0
    · rw [if_pos q, if_pos (cmp_eq.mpr (to64_0.mpr q))]
    · rw [if_neg q, if_neg (fun z => q (to64_0.mp (cmp_eq.mp z)))]
theorem eq_cannot {wd : WT} {x : MT} (hJ : mJ (mS x)) (hR : Rl wd (mS x)) (l : Int32) : s_cannot wd l = r_cannot x l := by
  unfold s_cannot r_cannot
  rw [isLaw_eq hR]
  by_cases q : w_hasLaw wd l = true
  · rw [if_pos q, if_pos q]
    obtain ⟨l, rfl, hl⟩ := law_ex q hR.c3.2
    unfold w_firstImpossible
    rw [hR.n2]
    exact cannot_go hJ hR hl _ 0 (by omega)
  · rw [if_neg q, if_neg q]

/-! from, spread, told, as, count, trace: alike -/
def frR (x : MT) (ss ag : Int32) (j : Nat) : Bool := if ((mS x) (170 + ((mS x) (322 + (nI j)).toNatClampNeg)).toNatClampNeg) = ss then if (r_isUnchanged x (nI j)) = true then if ((mS x) (442 + (nI j)).toNatClampNeg) < ag then false else true else false else false
theorem fr_eq {wd : WT} {x : MT} (hJ : mJ (mS x)) (hR : Rl wd (mS x)) {t : Nat} (ht : t < (wAn wd).1) (ss ag : Int32) : (if (f_at 5 (wAn wd) (nI t) 4) < ag then false else if (w_ofAsked wd (nI t) 0) = ss then if (w_ofAsked wd (nI t) 6) = 0 then true else false else false) = frR x ss ag t := by
  unfold frR
  rw [show f_at 5 (wAn wd) (nI t) 4 = mS x ((442 : Int32) + nI t).toNatClampNeg from an_c hR ht (j := 4) (by decide), show w_ofAsked wd (nI t) 0 = mS x ((170 : Int32) + mS x (322 + nI t).toNatClampNeg).toNatClampNeg from Rl.ofA hJ hR ht (j := 0) (by decide)]
  have u := unch_eq hJ hR ht
  by_cases a : mS x ((442 : Int32) + nI t).toNatClampNeg < ag
  · rw [if_pos a]
    split
    · split
      · rfl
      · rfl
    · rfl
  · rw [if_neg a]
    by_cases p : w_ofAsked wd (nI t) 6 = 0
    · rw [if_pos p, if_pos (u.mp p), if_neg a]
    · rw [if_neg p, if_neg (fun z => p (u.mpr z))]
theorem fromIt_st (x : MT) (ss : Int32) (why : Bool) (k j : Nat) (al gd : Int32) : r_fromIt_st x ss why k j al gd = if frR x ss (nI k) j = true then (al + 1, gd + (b2i (if ((mS x) (362 + (nI j)).toNatClampNeg) = 1 then if why = true then if ((mS x) (402 + (nI j)).toNatClampNeg) = 1 then true else false else true else false))) else (al, gd) := by
  unfold r_fromIt_st frR
  by_cases a : ((mS x) (170 + ((mS x) (322 + (nI j)).toNatClampNeg)).toNatClampNeg) = ss
  · rw [if_pos a, if_pos a, if_pos a]
    by_cases b : r_isUnchanged x (nI j) = true
    · rw [if_pos b, if_pos b, if_pos b]
      by_cases c : ((mS x) (442 + (nI j)).toNatClampNeg) < nI k
      · rw [if_pos c, if_pos c, if_pos c, if_neg (by decide)]
      · rw [if_neg c, if_neg c, if_neg c, if_pos rfl]
    · rw [if_neg b, if_neg b, if_neg b, if_neg (by decide)]
  · rw [if_neg a, if_neg a, if_neg a, if_neg (by decide)]
theorem most_it {wd : WT} {x : MT} (hJ : mJ (mS x)) (hR : Rl wd (mS x)) (ss : Int32) (why : Bool) (k : Nat) : ∀ j : Nat, j ≤ (wAn wd).1 → w_mostIt wd ss (nI k) why 0 0 j = r_fromIt x ss why k 0 0 j
  | 0, _ => rfl
  | j + 1, h => by
    have ih := most_it hJ hR ss why k j (by omega)
    have hj : j < (wAn wd).1 := by omega
    show w_mostIt_st wd ss (nI k) why j (w_mostIt wd ss (nI k) why 0 0 j).1 (w_mostIt wd ss (nI k) why 0 0 j).2 = r_fromIt_st x ss why k j (r_fromIt x ss why k 0 0 j).1 (r_fromIt x ss why k 0 0 j).2
    rw [ih, fromIt_st]
    unfold w_mostIt_st
    rw [fr_eq hJ hR hj, same_eq hR hj, show f_at 5 (wAn wd) (nI j) 3 = mS x ((402 : Int32) + nI j).toNatClampNeg from an_c hR hj (j := 3) (by decide)]
    cases hf : frR x ss (nI k) j with
    | false => rw [if_neg (by decide), if_neg (by decide), if_neg (by decide)]
    | true =>
      rw [if_pos rfl, if_pos rfl, if_pos rfl]
      congr 1
      by_cases a : ((mS x) (362 + (nI j)).toNatClampNeg) = 1
      · rw [if_pos a, if_pos rfl, if_pos a]
        cases why with
        | false => rw [if_neg (by decide), if_neg (by decide)]; rfl
        | true =>
          rw [if_pos rfl, if_pos rfl]
          by_cases b : mS x ((402 : Int32) + nI j).toNatClampNeg = 1
          · rw [if_pos b, if_pos b]; rfl
          · rw [if_neg b, if_neg b]; exact (Int32.add_zero _).symm
      · rw [if_neg a, if_neg (by decide), if_neg a]; exact (Int32.add_zero _).symm
theorem age_go {wd : WT} {x : MT} (hJ : mJ (mS x)) (hR : Rl wd (mS x)) (ss : Int32) (why : Bool) : ∀ n k : Nat, w_ageGo wd ss why n k = r_fromGo x ss why n k
  | 0, k => rfl
  | n + 1, k => by
    have ih := age_go hJ hR ss why n (k + 1)
    rw [w_ageGo_s, r_fromGo_s, ih, hR.n2]
    unfold w_isMostlyKept
    rw [most_it hJ hR ss why k _ (Nat.le_refl _), Int32.mul_comm]
    by_cases a : 2 * (r_fromIt x ss why k 0 0 (wAn wd).1).2 ≤ (r_fromIt x ss why k 0 0 (wAn wd).1).1
    · rw [if_pos a, if_neg (by decide), if_pos a]
    · rw [if_neg a, if_pos rfl, if_neg a]
theorem eq_from {wd : WT} {x : MT} (hJ : mJ (mS x)) (hR : Rl wd (mS x)) (ss : Int32) (why : Bool) : s_from wd ss why = r_from x ss why := by
  unfold s_from w_ageOf r_from
  rw [isStuff_eq, age_go hJ hR]
/-- spread -/
theorem taught_go {wd : WT} {x : MT} (hR : Rl wd (mS x)) {c : Nat} (hc : c < (wCh wd).1) {k : Nat} (hk : k < 4) : (f_at 5 (wCh wd) (nI c) (1 + nI k) = 100000 ↔ mS x ((138 + (4 * nI c)) + nI k).toNatClampNeg = -1) := by
  have h0 := hR.c0.2
  have e2 : ((138 : Int32) + 4 * nI c + nI k).toNatClampNeg = 138 + 4 * c + k := by
    rw [show (138 : Int32) = nI 138 from rfl, show (4 : Int32) = nI 4 from rfl, pk_mul, nI_add, nI_add, nI_clamp (by omega)]
  rw [taught_at hR hc hk, e2]
  rcases (hR.ch hc).2 k hk with ⟨e1, e3⟩ | ⟨e1, e3⟩
  · exact ⟨fun _ => e3, fun _ => e1⟩
  · rw [e1]
    constructor
    · intro z; rw [z] at e3; exact absurd e3.2 (by rw [t100]; decide)
    · intro z; rw [z] at e3; exact absurd e3.1 (by decide)
theorem eq_spread {wd : WT} {x : MT} (hJ : mJ (mS x)) (hR : Rl wd (mS x)) (l c n : Int32) : s_spread wd l c n = r_spread x l c n := by
  unfold s_spread r_spread
  rw [isLaw_eq hR, isChild_eq hR, show r_in n 0 99 = _ from in7 n 99 (by decide)]
  by_cases q1 : w_hasLaw wd l = true
  · rw [if_pos q1, if_pos q1]
    by_cases q2 : f_has (wCh wd) c = true
    · rw [if_pos q2, if_pos q2]
      by_cases p : n < 0
      · rw [if_pos p, if_pos p, if_neg (by decide)]
      · rw [if_neg p, if_neg p]
        obtain ⟨m, hm, rfl⟩ := nI_of p
        by_cases z : m ≤ 99
        · rw [if_pos (show nI m ≤ (99 : Int32) from nI_le (b := 99) z (by decide)), if_neg (show ¬ nI (99 + 1) ≤ nI m from nI_ge (by omega) (by decide)), if_pos rfl]
          have hl8 := hR.c3.2
          obtain ⟨l, rfl, hl⟩ := law_ex q1 hR.c3.2
          obtain ⟨c, rfl, hc⟩ := has_ex q2 (by have := hR.c0.2; omega)
          have hb := hR.ageb hJ hc
          rw [hR.age hc, nI_clamp (by omega)]
          generalize hgg : mS x (130 + nI c).toNatClampNeg + nI m = gg
          have hg : ib 0 219 gg := by
            rw [← hgg]
            have e1 : (nI m).toInt = m := nI_toInt hm
            exact ((ib_add hb (⟨by rw [e1]; omega, by rw [e1]; omega⟩ : ib 0 99 (nI m)) (by decide) (by decide)) : ib _ _ _)
          rw [kept_eq hJ.1 hJ.2.1 hR hl hc hg]
          have t0 := taught_go hR hc (k := 0) (by decide)
          have t1 := taught_go hR hc (k := 1) (by decide)
          have t2 := taught_go hR hc (k := 2) (by decide)
          have t3 := taught_go hR hc (k := 3) (by decide)
          have ew : w_isTaughtSome wd (nI c) = (if f_at 5 (wCh wd) (nI c) (1 + nI 0) = 100000 then if f_at 5 (wCh wd) (nI c) (1 + nI 1) = 100000 then if f_at 5 (wCh wd) (nI c) (1 + nI 2) = 100000 then if f_at 5 (wCh wd) (nI c) (1 + nI 3) = 100000 then false else true else true else true else true) := rfl
          have es : r_spreadIt x (nI l) (nI c) (nI m) false 0 4 = r_spreadIt_st x (nI l) (nI c) (nI m) 3 (r_spreadIt_st x (nI l) (nI c) (nI m) 2 (r_spreadIt_st x (nI l) (nI c) (nI m) 1 (r_spreadIt_st x (nI l) (nI c) (nI m) 0 false 0).1 (r_spreadIt_st x (nI l) (nI c) (nI m) 0 false 0).2).1 (r_spreadIt_st x (nI l) (nI c) (nI m) 1 (r_spreadIt_st x (nI l) (nI c) (nI m) 0 false 0).1 (r_spreadIt_st x (nI l) (nI c) (nI m) 0 false 0).2).2).1 (r_spreadIt_st x (nI l) (nI c) (nI m) 2 (r_spreadIt_st x (nI l) (nI c) (nI m) 1 (r_spreadIt_st x (nI l) (nI c) (nI m) 0 false 0).1 (r_spreadIt_st x (nI l) (nI c) (nI m) 0 false 0).2).1 (r_spreadIt_st x (nI l) (nI c) (nI m) 1 (r_spreadIt_st x (nI l) (nI c) (nI m) 0 false 0).1 (r_spreadIt_st x (nI l) (nI c) (nI m) 0 false 0).2).2).2 := rfl
          rw [ew, es]
          unfold r_spreadIt_st
          rw [hgg]
          have kk : ∀ a b d e : Bool, (((0 : Int32) ||| (if a = true then (1 : Int32) <<< (nI 0 &&& 31) else 0)) ||| (if b = true then (1 : Int32) <<< (nI 1 &&& 31) else 0)) ||| (if d = true then (1 : Int32) <<< (nI 2 &&& 31) else 0) ||| (if e = true then (1 : Int32) <<< (nI 3 &&& 31) else 0) = kv a b d e := by decide
          dsimp only
          rw [kk]
          by_cases a0 : f_at 5 (wCh wd) (nI c) (1 + nI 0) = 100000
          · rw [if_pos a0, if_pos (t0.mp a0)]
            by_cases a1 : f_at 5 (wCh wd) (nI c) (1 + nI 1) = 100000
            · rw [if_pos a1, if_pos (t1.mp a1)]
              by_cases a2 : f_at 5 (wCh wd) (nI c) (1 + nI 2) = 100000
              · rw [if_pos a2, if_pos (t2.mp a2)]
                by_cases a3 : f_at 5 (wCh wd) (nI c) (1 + nI 3) = 100000
                · rw [if_pos a3, if_pos (t3.mp a3)]; rfl
                · rw [if_neg a3, if_neg (fun z => a3 (t3.mpr z))]; rfl
              · rw [if_neg a2, if_neg (fun z => a2 (t2.mpr z))]; rfl
            · rw [if_neg a1, if_neg (fun z => a1 (t1.mpr z))]; rfl
          · rw [if_neg a0, if_neg (fun z => a0 (t0.mpr z))]; rfl
        · rw [if_neg (show ¬ nI m ≤ (99 : Int32) from nI_ge (a := 99) (by omega) hm), if_pos (show nI (99 + 1) ≤ nI m from nI_le (by omega) hm), if_neg (by decide)]
    · rw [if_neg q2, if_neg q2]
  · rw [if_neg q1, if_neg q1]
theorem eq_count {wd : WT} {x : MT} (hR : Rl wd (mS x)) (w : Int32) : s_count wd (mRa x) w = r_count x w := by
  unfold s_count r_count
  rw [← hR.c0.1, ← hR.c1.1, ← hR.c2.1, ← hR.c3.1, ← hR.c4.1]
  rfl

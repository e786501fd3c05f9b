/-! next: three heaps; moves: two shares -/
theorem max3 (a b c : Int32) : (if a < (if b < c then c else b) then (if b < c then c else b) else a) = (if c ≤ (if a ≤ b then b else a) then (if a ≤ b then b else a) else c) := by
  by_cases h1 : b < c
  · rw [if_pos h1]
    have h1 := i32lt.mp h1
    by_cases h2 : a ≤ b
    · rw [if_pos h2]
      have h2 := i32le.mp h2
      rw [if_pos (show a < c from i32lt.mpr (by omega)), if_neg (show ¬ c ≤ b from fun z => by have := i32le.mp z; omega)]
    · rw [if_neg h2]
      by_cases h3 : a < c
      · rw [if_pos h3, if_neg (show ¬ c ≤ a from fun z => by have := i32le.mp z; have := i32lt.mp h3; omega)]
      · rw [if_neg h3, if_pos (show c ≤ a from i32le.mpr (by have : ¬ a.toInt < c.toInt := fun z => h3 (i32lt.mpr z); omega))]
  · rw [if_neg h1]
    have h1 : ¬ b.toInt < c.toInt := fun z => h1 (i32lt.mpr z)
    by_cases h2 : a ≤ b
    · rw [if_pos h2]
      have h2 := i32le.mp h2
      rw [if_pos (show c ≤ b from i32le.mpr (by omega))]
      by_cases h3 : a < b
      · rw [if_pos h3]
      · rw [if_neg h3]
        have h3 : ¬ a.toInt < b.toInt := fun z => h3 (i32lt.mpr z)
        exact Int32.toInt_inj.mp (by omega)
    · rw [if_neg h2]
      have h2 : ¬ a.toInt ≤ b.toInt := fun z => h2 (i32le.mpr z)
      rw [if_neg (show ¬ a < b from fun z => by have := i32lt.mp z; omega), if_pos (show c ≤ a from i32le.mpr (by omega))]
theorem heap_it {wd : WT} {x : MT} (hJ : mJ (mS x)) (hR : Rl wd (mS x)) {c a : Nat} (hc : c < (wCh wd).1) (ha : a < (wAs wd).1) {H : Nat → Int32} (h0 : H 0 = 0) (h1 : H 1 = 0) (h2 : H 2 = 0) : ∀ j, j ≤ wLc wd → r_nextIt x (nI c) a H j 0 = (w_heapIt wd (nI c) (nI a) 0 0 0 j).1 ∧ r_nextIt x (nI c) a H j 1 = (w_heapIt wd (nI c) (nI a) 0 0 0 j).2.1 ∧ r_nextIt x (nI c) a H j 2 = (w_heapIt wd (nI c) (nI a) 0 0 0 j).2.2
  | 0, _ => ⟨h0, h1, h2⟩
  | j + 1, h => by
    obtain ⟨i0, i1, i2⟩ := heap_it hJ hR hc ha h0 h1 h2 j (by omega)
    have hl8 := hR.c3.2
    have ha16 := hR.c1.2
    have e1 : r_nextIt x (nI c) a H (j + 1) = r_nextIt_st x (nI c) a j (r_nextIt x (nI c) a H j) := rfl
    have e2 : w_heapIt wd (nI c) (nI a) 0 0 0 (j + 1) = w_heapIt_st wd (nI c) (nI a) j (w_heapIt wd (nI c) (nI a) 0 0 0 j).1 (w_heapIt wd (nI c) (nI a) 0 0 0 j).2.1 (w_heapIt wd (nI c) (nI a) 0 0 0 j).2.2 := rfl
    rw [e1, e2]
    unfold r_nextIt_st w_heapIt_st
    rw [toldNow_eq hJ hR (show j < wLc wd by omega) hc ha]
    have hb := tells_ib (x := x) hJ.1 (ll := nI j) (cc := nI c) (aa := nI a) (gg := mS x (130 + nI c).toNatClampNeg) (ib_lit (by omega) (by omega) (by omega)) (ib_lit (by omega) (by omega) (by omega))
    obtain ⟨t, et, t0, t2⟩ := hb.nI_eq (by decide)
    rw [et]
    generalize r_nextIt x (nI c) a H j = F at i0 i1 i2 ⊢
    generalize w_heapIt wd (nI c) (nI a) 0 0 0 j = g at i0 i1 i2 ⊢
    have ht : t < 3 := by omega
    match t, ht with
    | 0, _ => exact ⟨(pk_us (f := F) (k := 0)).trans (by rw [← i0]; rfl), (pk_un (f := F) (k := 0) (j := 1) (by decide)).trans i1, (pk_un (f := F) (k := 0) (j := 2) (by decide)).trans i2⟩
    | 1, _ => exact ⟨(pk_un (f := F) (k := 1) (j := 0) (by decide)).trans i0, (pk_us (f := F) (k := 1)).trans (by rw [← i1]; rfl), (pk_un (f := F) (k := 1) (j := 2) (by decide)).trans i2⟩
    | 2, _ => exact ⟨(pk_un (f := F) (k := 2) (j := 0) (by decide)).trans i0, (pk_un (f := F) (k := 2) (j := 1) (by decide)).trans i1, (pk_us (f := F) (k := 2)).trans (by rw [← i2]; rfl)⟩
theorem next_go {wd : WT} {x : MT} (hJ : mJ (mS x)) (hR : Rl wd (mS x)) {c : Nat} (hc : c < (wCh wd).1) : ∀ (n k : Nat) (He : Nat → Int32), k + n = (wAs wd).1 → (r_nextGo x (nI c) n k (w_bestIt wd (nI c) (-5) (nI (wLc wd)) k).1 (w_bestIt wd (nI c) (-5) (nI (wLc wd)) k).2 He).1 = (w_bestIt wd (nI c) (-5) (nI (wLc wd)) (wAs wd).1).1
  | 0, k, He, h => by rw [r_nextGo_0, show k = (wAs wd).1 by omega]
  | n + 1, k, He, h => by
    have ih := next_go hJ hR hc n (k + 1)
    obtain ⟨i0, i1, i2⟩ := heap_it hJ hR hc (show k < (wAs wd).1 by omega) (H := upd (upd (upd He (0 : Int32).toNatClampNeg 0) (1 : Int32).toNatClampNeg 0) (2 : Int32).toNatClampNeg 0) rfl rfl rfl (wLc wd) (Nat.le_refl _)
    rw [r_nextGo_s, hR.n3]
    generalize r_nextIt x (nI c) k (upd (upd (upd He (0 : Int32).toNatClampNeg 0) (1 : Int32).toNatClampNeg 0) (2 : Int32).toNatClampNeg 0) (wLc wd) = F at i0 i1 i2 ⊢
    have em : (if F 2 ≤ (if F 0 ≤ F 1 then F 1 else F 0) then (if F 0 ≤ F 1 then F 1 else F 0) else F 2) = w_greatestHeap wd (nI c) (nI k) := by
      rw [← max3, i0, i1, i2]
      rfl
    have e2 : w_bestIt wd (nI c) (-5) (nI (wLc wd)) (k + 1) = w_bestIt_st wd (nI c) k (w_bestIt wd (nI c) (-5) (nI (wLc wd)) k).1 (w_bestIt wd (nI c) (-5) (nI (wLc wd)) k).2 := rfl
    have ih := ih F (by omega)
    rw [e2] at ih
    unfold w_bestIt_st at ih
    rw [← em] at ih
    exact ih
theorem eq_next {wd : WT} {x : MT} (hJ : mJ (mS x)) (hR : Rl wd (mS x)) (He : Nat → Int32) (c : Int32) : s_next wd c = (r_next x He c).1 := by
  unfold s_next r_next
  rw [isChild_eq hR]
  by_cases q : f_has (wCh wd) c = true
  · rw [if_pos q, if_pos q]
    obtain ⟨c, rfl, hc⟩ := has_ex q (by have := hR.c0.2; omega)
    rw [hR.n1, show mS x (3 : Int32).toNatClampNeg = nI (wLc wd) from hR.c3.1]
    exact (next_go hJ hR hc (wAs wd).1 0 He (by omega)).symm
  · rw [if_neg q, if_neg q]
/-! moves -/
def fuR (x : MT) (mv ti : Int32) (k : Nat) : Bool := if r_isUnchanged x (nI k) = true then if mS x (186 + mS x (322 + nI k).toNatClampNeg).toNatClampNeg = mv then if ti = 0 then true else if mS x (202 + mS x (322 + nI k).toNatClampNeg).toNatClampNeg = ti then true else false else false else false
def tiR (times ti : Int32) : Prop := (times = -1 ∧ ti = 0) ∨ (times = ti ∧ ¬ times = -1 ∧ ¬ ti = 0)
theorem fu_eq {wd : WT} {x : MT} (hJ : mJ (mS x)) (hR : Rl wd (mS x)) {t : Nat} (ht : t < (wAn wd).1) (mv : Int32) {times ti : Int32} (h : tiR times ti) : (if (w_ofAsked wd (nI t) 6) = 0 then if (w_ofAsked wd (nI t) 1) = mv then if times = (-1) then true else if (w_ofAsked wd (nI t) 2) = times then true else false else false else false) = fuR x mv ti t := by
  unfold fuR
  have u := unch_eq hJ hR ht
  rw [show w_ofAsked wd (nI t) 1 = mS x ((186 : Int32) + mS x (322 + nI t).toNatClampNeg).toNatClampNeg from Rl.ofA hJ hR ht (j := 1) (by decide), show w_ofAsked wd (nI t) 2 = mS x ((202 : Int32) + mS x (322 + nI t).toNatClampNeg).toNatClampNeg from Rl.ofA hJ hR ht (j := 2) (by decide)]
  have et : ∀ v : Int32, (if times = (-1) then true else if v = times then true else false) = (if ti = 0 then true else if v = ti then true else false) := fun v => by
    rcases h with ⟨a, b⟩ | ⟨a, b, c⟩
    · rw [if_pos a, if_pos b]
    · rw [if_neg b, if_neg c, a]
  rw [et]
  by_cases p : w_ofAsked wd (nI t) 6 = 0
  · rw [if_pos p, if_pos (u.mp p)]
  · rw [if_neg p, if_neg (fun z => p (u.mpr z))]
theorem count_st (x : MT) (mv ti : Int32) (n k : Nat) (al sa : Int64) : r_countsGo x mv ti (n + 1) k al sa = if fuR x mv ti k = true then r_countsGo x mv ti n (k + 1) (al + 1) (sa + (if (mS x) (362 + nI k).toNatClampNeg = 1 then 1 else 0)) else r_countsGo x mv ti n (k + 1) al sa := by
  rw [r_countsGo_s]
  unfold fuR
  by_cases a : r_isUnchanged x (nI k) = true
  · rw [if_pos a, if_pos a]
    by_cases b : mS x (186 + mS x (322 + nI k).toNatClampNeg).toNatClampNeg = mv
    · rw [if_pos b, if_pos b]
      by_cases c : ti = 0
      · rw [if_pos c, if_pos c, if_pos rfl]
      · rw [if_neg c, if_neg c]
        by_cases d : mS x (202 + mS x (322 + nI k).toNatClampNeg).toNatClampNeg = ti
        · rw [if_pos d, if_pos d, if_pos rfl]
        · rw [if_neg d, if_neg d, if_neg (by decide)]
    · rw [if_neg b, if_neg b, if_neg (by decide)]
  · rw [if_neg a, if_neg a, if_neg (by decide)]
theorem count_go {wd : WT} {x : MT} (hJ : mJ (mS x)) (hR : Rl wd (mS x)) (mv : Int32) {times ti : Int32} (h : tiR times ti) : ∀ n k : Nat, k + n = (wAn wd).1 → r_countsGo x mv ti n k (w_unchIt wd mv times false 0 k) (w_unchIt wd mv times true 0 k) = ((if lg_cmp (w_unchanged wd mv times false) 0 = 0 then 1 else w_unchanged wd mv times false), w_unchanged wd mv times true)
  | 0, k, hk => by
    rw [r_countsGo_0, show k = (wAn wd).1 by omega]
    rfl
  | n + 1, k, hk => by
    have ih := count_go hJ hR mv h n (k + 1) (by omega)
    have ht : k < (wAn wd).1 := by omega
    rw [count_st, ← ih]
    have e1 : w_unchIt wd mv times false 0 (k + 1) = w_unchIt_st wd mv times false k (w_unchIt wd mv times false 0 k) := rfl
    have e2 : w_unchIt wd mv times true 0 (k + 1) = w_unchIt_st wd mv times true k (w_unchIt wd mv times true 0 k) := rfl
    rw [e1, e2]
    unfold w_unchIt_st
    rw [fu_eq hJ hR ht mv h, same_eq hR ht]
    cases fuR x mv ti k with
    | false => rw [if_neg (by decide), if_neg (by decide), if_neg (by decide)]
    | true =>
      by_cases a : mS x (362 + nI k).toNatClampNeg = 1
      · simp [a]
      · simp [a]
theorem counts_eq {wd : WT} {x : MT} (hJ : mJ (mS x)) (hR : Rl wd (mS x)) (mv : Int32) {times ti : Int32} (h : tiR times ti) : r_counts x mv ti = ((if lg_cmp (w_unchanged wd mv times false) 0 = 0 then 1 else w_unchanged wd mv times false), w_unchanged wd mv times true) := by
  unfold r_counts
  rw [hR.n2]
  exact count_go hJ hR mv h (wAn wd).1 0 (by omega)
theorem unch_n (wd : WT) (mv times : Int32) (o : Bool) : ∀ k : Nat, ∃ m : Nat, m ≤ k ∧ w_unchIt wd mv times o 0 k = lN m
  | 0 => ⟨0, Nat.le_refl _, rfl⟩
  | k + 1 => by
    obtain ⟨m, hm, e⟩ := unch_n wd mv times o k
    show ∃ m : Nat, m ≤ k + 1 ∧ w_unchIt_st wd mv times o k (w_unchIt wd mv times o 0 k) = lN m
    unfold w_unchIt_st
    rw [e]
    have e1 : lN m + 1 = lN (m + 1) := lN_1 m
    rw [e1]
    repeat' split
    all_goals first | exact ⟨m + 1, by omega, rfl⟩ | exact ⟨m, by omega, rfl⟩
theorem all_n {wd : WT} (h : (wAn wd).1 ≤ 40) (mv times : Int32) : ∃ m : Nat, 0 < m ∧ m ≤ 40 ∧ (if 1 < w_unchanged wd mv times false then w_unchanged wd mv times false else 1) = lN m ∧ (if lg_cmp (w_unchanged wd mv times false) 0 = 0 then 1 else w_unchanged wd mv times false) = lN m := by
  obtain ⟨m, hm, e⟩ := unch_n wd mv times false (wAn wd).1
  have e : w_unchanged wd mv times false = lN m := e
  rw [e]
  match m, hm with
  | 0, _ => exact ⟨1, by decide, by decide, rfl, rfl⟩
  | m + 1, hm =>
    refine ⟨m + 1, by omega, by omega, ?_, ?_⟩
    · by_cases q : 0 < m
      · rw [if_pos (show (1 : Int64) < lN (m + 1) from (pk_lLT (a := 1) (b := m + 1) (by decide) (by omega)).mpr (by omega))]
      · have z : m = 0 := by omega
        subst z
        rfl
    · rw [if_neg (fun z => by have := (lN_0 (by omega)).mp z; omega)]
theorem share_eq {wd : WT} {x : MT} (hJ : mJ (mS x)) (hR : Rl wd (mS x)) (m1 m2 : Int32) {t1 i1 t2 i2 : Int32} (h1 : tiR t1 i1) (h2 : tiR t2 i2) (p : Int32) : w_shareLess wd m1 t1 m2 t2 p = r_lowest (((r_counts x m1 i1).2 * (r_counts x m2 i2).1) - ((r_counts x m2 i2).2 * (r_counts x m1 i1).1)) ((r_counts x m1 i1).1 * (r_counts x m2 i2).1) p := by
  rw [counts_eq hJ hR m1 h1, counts_eq hJ hR m2 h2]
  have h40 := hR.c2.2
  obtain ⟨a, a0, a1, a2, a3⟩ := all_n h40 m1 t1
  obtain ⟨b, b0, b1, b2, b3⟩ := all_n h40 m2 t2
  obtain ⟨c, c1, c2⟩ := unch_n wd m1 t1 true (wAn wd).1
  obtain ⟨d, d1, d2⟩ := unch_n wd m2 t2 true (wAn wd).1
  have c2 : w_unchanged wd m1 t1 true = lN c := c2
  have d2 : w_unchanged wd m2 t2 true = lN d := d2
  unfold w_shareLess
  dsimp only
  rw [a2, b2, a3, b3, c2, d2, lN_mul, lN_mul, lN_mul]
  have x1 : c * b ≤ 40 * 40 := Nat.mul_le_mul (by omega) b1
  have x2 : d * a ≤ 40 * 40 := Nat.mul_le_mul (by omega) a1
  have x3 : a * b ≤ 40 * 40 := Nat.mul_le_mul a1 b1
  have x4 : 0 < a * b := Nat.mul_pos a0 b0
  refine lowest_eq p ?_ x4 (by omega)
  rw [Int64.toInt_sub, pk_lT (by omega), pk_lT (by omega)]
  generalize c * b = u at x1 ⊢
  generalize d * a = v at x2 ⊢
  rw [Int.bmod_eq_of_le (by omega) (by omega)]
  omega
theorem eq_moves {wd : WT} {x : MT} (hJ : mJ (mS x)) (hR : Rl wd (mS x)) (Al Sa : Int64) (w p : Int32) : s_moves wd w p = (r_moves x Al Sa w p).1 := by
  unfold s_moves r_moves
  rw [show r_in w 0 1 = _ from in7 w 1 (by decide), part_eq]
  by_cases q : w < 0
  · rw [if_pos q, if_pos q, if_neg (by decide)]
  · rw [if_neg q, if_neg q]
    obtain ⟨j, hj, rfl⟩ := nI_of q
    by_cases z : j < 2
    · rw [if_neg (show ¬ (1 : Int32) < nI j from nI_nlt (b := j) (a := 1) (by omega) (by decide)), if_neg (show ¬ nI (1 + 1) ≤ nI j from nI_ge z (by decide)), if_pos rfl]
      by_cases q3 : r_in p 0 1 = true
      · rw [if_pos q3, if_pos q3]
        match j, z with
        | 0, _ =>
          have e : nI 0 = 0 := rfl
          rw [if_pos e, if_pos e, if_pos e, if_pos e, show b2i false = 0 from rfl, show b2i true = 1 from rfl]
          exact share_eq hJ hR 0 0 (t1 := 2) (i1 := 2) (t2 := 1) (i2 := 1) (.inr ⟨rfl, by decide, by decide⟩) (.inr ⟨rfl, by decide, by decide⟩) p
        | 1, _ =>
          have e : ¬ nI 1 = 0 := by decide
          rw [if_neg e, if_neg e, if_neg e, if_neg e, show b2i false = 0 from rfl, show b2i true = 1 from rfl]
          exact share_eq hJ hR 1 0 (t1 := -1) (i1 := 0) (t2 := -1) (i2 := 0) (.inl ⟨rfl, rfl⟩) (.inl ⟨rfl, rfl⟩) p
      · rw [if_neg q3, if_neg q3]
    · rw [if_pos (show (1 : Int32) < nI j from nI_lt (a := 1) (by omega) hj), if_pos (show nI (1 + 1) ≤ nI j from nI_le (by omega) hj), if_neg (by decide)]

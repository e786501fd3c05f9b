/-! told, as, trace -/
theorem inS_iff (w : Int32) (a b : Int32) : r_in w a b = true ↔ a.toInt ≤ w.toInt ∧ w.toInt ≤ b.toInt := by
  unfold r_in
  by_cases h1 : w < a
  · rw [if_pos h1]
    have := i32lt.mp h1
    exact ⟨fun h => (by cases h), fun h => by omega⟩
  · rw [if_neg h1]
    have h1 : ¬ w.toInt < a.toInt := fun z => h1 (i32lt.mpr z)
    by_cases h2 : b < w
    · rw [if_pos h2]
      have := i32lt.mp h2
      exact ⟨fun h => (by cases h), fun h => by omega⟩
    · rw [if_neg h2]
      have h2 : ¬ b.toInt < w.toInt := fun z => h2 (i32lt.mpr z)
      exact ⟨fun _ => by omega, fun _ => rfl⟩
theorem beq_iff {a b : Bool} (h : a = true ↔ b = true) : a = b := by
  cases a <;> cases b
  · rfl
  · exact absurd (h.mpr rfl) (by decide)
  · exact absurd (h.mp rfl) (by decide)
  · rfl
theorem stuff10 (w : Int32) : f_isStuff (w - 10) = r_in w 10 13 := by
  rw [← isStuff_eq]
  apply beq_iff
  unfold r_isStuff
  rw [inS_iff, inS_iff]
  have e0 : (0 : Int32).toInt = 0 := rfl
  have e3 : (3 : Int32).toInt = 3 := rfl
  have e10 : (10 : Int32).toInt = 10 := rfl
  have e13 : (13 : Int32).toInt = 13 := rfl
  have hl := Int32.le_toInt w
  have hu := Int32.toInt_lt w
  rw [Int32.toInt_sub, e0, e3, e10, e13]
  by_cases q : w.toInt < -2 ^ 31 + 10
  · have e : (w.toInt - 10).bmod (2 ^ 32) = w.toInt - 10 + 2 ^ 32 := by
      have h1 : (w.toInt - 10 + 2 ^ 32).bmod (2 ^ 32) = (w.toInt - 10).bmod (2 ^ 32) := Int.add_bmod_right _ _
      rw [← h1]
      exact Int.bmod_eq_of_le (by omega) (by omega)
    rw [e]
    omega
  · rw [Int.bmod_eq_of_le (by omega) (by omega)]
    omega
theorem eq_told {wd : WT} {x : MT} (hR : Rl wd (mS x)) (l w : Int32) : s_told wd l w = r_told x l w := by
  unfold s_told r_told
  rw [isLaw_eq hR, stuff10, show r_in w 0 2 = _ from in7 w 2 (by decide)]
  by_cases q1 : w_hasLaw wd l = true
  · rw [if_pos q1, if_pos q1]
    obtain ⟨l, rfl, hl⟩ := law_ex q1 hR.c3.2
    have h8 := hR.c3.2
    obtain ⟨-, k1, k2, k3, k4, -⟩ := hR.lw hl
    rw [nI_clamp (by omega)]
    by_cases p : w < 0
    · rw [if_pos p, if_neg (show ¬ (false = true) by decide), if_neg (fun z => by subst z; exact absurd p (by decide)), if_neg (fun z => by subst z; exact absurd p (by decide)), if_neg (fun z => by subst z; exact absurd p (by decide))]
      have : ¬ r_in w 10 13 = true := fun z => by
        have h1 := (inS_iff _ _ _).mp z
        have h2 := i32lt.mp p
        have e0 : (0 : Int32).toInt = 0 := rfl
        have e10 : (10 : Int32).toInt = 10 := rfl
        omega
      rw [if_neg this, if_neg this]
    · rw [if_neg p]
      obtain ⟨j, hj, rfl⟩ := nI_of p
      by_cases z : j < 3
      · rw [if_neg (show ¬ nI (2 + 1) ≤ nI j from nI_ge z (by decide)), if_pos rfl]
        match j, z with
        | 0, _ =>
          rw [if_pos (show nI 0 = 0 from rfl), show (482 : Int32) + 8 * nI 0 + nI l = nI 482 + nI l from rfl, cl2 (by omega)]
          exact k1
        | 1, _ =>
          rw [if_neg (show ¬ nI 1 = 0 by decide), if_pos (show nI 1 = 1 from rfl), show (482 : Int32) + 8 * nI 1 + nI l = nI 490 + nI l from rfl, cl2 (by omega)]
          exact k2
        | 2, _ =>
          rw [if_neg (show ¬ nI 2 = 0 by decide), if_neg (show ¬ nI 2 = 1 by decide), if_pos (show nI 2 = 2 from rfl), show (482 : Int32) + 8 * nI 2 + nI l = nI 498 + nI l from rfl, cl2 (by omega)]
          exact k3
      · rw [if_pos (show nI (2 + 1) ≤ nI j from nI_le (by omega) hj), if_neg (show ¬ (false = true) by decide), if_neg (fun e => by have := (nI_eq (b := 0) hj (by decide)).mp e; omega), if_neg (fun e => by have := (nI_eq (b := 1) hj (by decide)).mp e; omega), if_neg (fun e => by have := (nI_eq (b := 2) hj (by decide)).mp e; omega)]
        by_cases q : r_in (nI j) 10 13 = true
        · rw [if_pos q, if_pos q]
          have h1 := (inS_iff _ _ _).mp q
          have e10 : (10 : Int32).toInt = 10 := rfl
          have e13 : (13 : Int32).toInt = 13 := rfl
          rw [nI_toInt hj] at h1
          obtain ⟨k, rfl⟩ : ∃ k, j = 10 + k := ⟨j - 10, by omega⟩
          have ea : nI (10 + k) - 10 = nI k := by rw [show (10 : Int32) = nI 10 from rfl, nI_sub (by omega)]; congr 1; omega
          have eb : (506 : Int32) + 4 * nI l + nI (10 + k) - 10 = nI (506 + 4 * l + k) := by
            rw [show (506 : Int32) = nI 506 from rfl, show (4 : Int32) = nI 4 from rfl, show (10 : Int32) = nI 10 from rfl, pk_mul, nI_add, nI_add, nI_sub (by omega)]
            congr 1
            omega
          rw [ea, eb, nI_clamp (by omega), nI_clamp (by omega)]
          exact k4 k (by omega)
        · rw [if_neg q, if_neg q]
  · rw [if_neg q1, if_neg q1]
theorem under_fin : ∀ k, k < 7 → ∀ j, j < 7 → f_isUnder (nI k) (nI j) = r_isUnder (nI k) (nI j) := by decide
theorem isKind_in7 (k : Int32) : f_isKind k = r_in k 0 6 := by
  rw [show r_in k 0 6 = _ from in7 k 6 (by decide)]
  unfold f_isKind
  rfl
theorem kind_ex {k : Int32} (h : f_isKind k = true) : ∃ n : Nat, k = nI n ∧ n < 7 := by
  unfold f_isKind at h
  by_cases q : k < 0
  · rw [if_pos q] at h; cases h
  · rw [if_neg q] at h
    obtain ⟨j, hj, rfl⟩ := nI_of q
    refine ⟨j, rfl, ?_⟩
    rcases Nat.lt_or_ge j 7 with w | w
    · exact w
    · rw [if_pos (show (7 : Int32) ≤ nI j from nI_le (a := 7) w hj)] at h; cases h
theorem Rl.kind {wd : WT} {s : Nat → Int32} (h : Rl wd s) (hJ : mJ s) {l : Nat} (hl : l < wLc wd) : ∃ k : Nat, k < 7 ∧ lKind (wLw wd l) = nI k ∧ s (482 + nI l).toNatClampNeg = nI k := by
  have h8 := h.c3.2
  obtain ⟨-, k1, -⟩ := h.lw hl
  have e : (482 + nI l : Int32).toNatClampNeg = 482 + l := by rw [show (482 : Int32) = nI 482 from rfl, cl2 (by omega)]
  have hb : ib 0 6 (s (482 + nI l).toNatClampNeg) := mI.at (lo := 482) (hi := 489) (x := 0) (y := 6) hJ.1 (ib_add (ib_nI (n := 482) (by decide)) (ib_lit (n := l) (a := 0) (b := 7) (by omega) (by omega) (by omega)) (by decide) (by decide)) (by decide) (by decide) (by decide)
  obtain ⟨k, ek, k0, k6⟩ := hb.nI_eq (by decide)
  exact ⟨k, by omega, by rw [k1, ← ek, e], ek⟩
theorem eq_as {wd : WT} {x : MT} (hJ : mJ (mS x)) (hR : Rl wd (mS x)) (l k : Int32) : s_as wd l k = r_as x l k := by
  unfold s_as r_as
  rw [isLaw_eq hR, ← isKind_in7]
  by_cases q1 : w_hasLaw wd l = true
  · rw [if_pos q1, if_pos q1]
    by_cases q2 : f_isKind k = true
    · rw [if_pos q2, if_pos q2]
      obtain ⟨l, rfl, hl⟩ := law_ex q1 hR.c3.2
      obtain ⟨k, rfl, hk⟩ := kind_ex q2
      have h8 := hR.c3.2
      obtain ⟨n, hn, e1, e2⟩ := hR.kind hJ hl
      obtain ⟨-, -, k2, -⟩ := hR.lw hl
      rw [nI_clamp (by omega), e1, e2, under_fin n hn k hk, show (490 : Int32) = nI 490 from rfl, cl2 (by omega), k2]
    · rw [if_neg q2, if_neg q2]
  · rw [if_neg q1, if_neg q1]
/-- the traces say the same -/
def trR9 (rn : Nat) (bo bo2 : Nat → Int32) : Prop := ∀ j, j < rn → j < 20 → bo j = bo2 j
theorem eq_trace (wd : WT) {x : MT} {rn : Nat} {bo : Nat → Int32} (h : mRa x = nI rn) (hr : rn ≤ 100) (ht : trR9 rn bo (mBo x)) (i : Int32) : s_trace wd (nI rn) bo i = r_trace x i := by
  unfold s_trace r_trace
  rw [h]
  have em : (if 20 ≤ nI rn then 20 else nI rn) - 1 = nI (if 20 ≤ rn then 20 else rn) - 1 := by
    by_cases q : 20 ≤ rn
    · rw [if_pos q, if_pos (show (20 : Int32) ≤ nI rn from nI_le (a := 20) q (by omega))]; rfl
    · rw [if_neg q, if_neg (show ¬ (20 : Int32) ≤ nI rn from nI_ge (b := 20) (by omega) (by decide))]
  rw [em, has_in _ (by split <;> omega)]
  unfold f_has
  by_cases p : i < 0
  · rw [if_pos p, if_pos p, if_neg (by decide)]
  · rw [if_neg p, if_neg p]
    obtain ⟨j, hj, rfl⟩ := nI_of p
    dsimp only
    by_cases q : 20 ≤ j
    · rw [if_pos (show (20 : Int32) ≤ nI j from nI_le (a := 20) q hj), if_pos (nI_le (by split <;> omega) hj), if_neg (by decide)]
    · rw [if_neg (show ¬ (20 : Int32) ≤ nI j from nI_ge (b := 20) (by omega) (by decide))]
      by_cases r : rn ≤ j
      · rw [if_pos (nI_le r hj), if_pos (nI_le (by split <;> omega) hj), if_neg (by decide)]
      · rw [if_neg (nI_ge (by omega) (by omega)), if_neg (nI_ge (by split <;> omega) (by split <;> omega)), if_pos rfl, nI_clamp hj]
        exact ht j (by omega) (by omega)

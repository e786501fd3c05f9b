/-! the class's World and the reference's row say the same -/
def tR (a b : Int32) : Prop := (a = 100000 ∧ b = -1) ∨ (a = b ∧ ib 0 120 b)
def enc (a b : Int32) : Prop := (∃ w h v : Nat, w < 7 ∧ h < 3 ∧ v ≤ 999 ∧ a = nI (w * 3000 + h * 1000 + v) ∧ b = nI (w + 8 * h + 32 * v)) ∨ (a = -1 ∧ b = -2) ∨ (a = -2 ∧ b = -3) ∨ (a = -3 ∧ b = -1) ∨ ∃ n : Nat, n < 3 ∧ a = -10 - nI n ∧ b = -10 - nI n
def lRel (x : LawT) (s : Nat → Int32) (l : Nat) : Prop := lNum x = nI l ∧ lKind x = s (482 + l) ∧ lV x = s (490 + l) ∧ lSlip x = s (498 + l) ∧ (∀ k, k < 4 → lFrom x k = s (506 + 4 * l + k)) ∧ (s (538 + l) = nI (lOv x).1 ∧ (lOv x).1 ≤ 10) ∧ (∀ i, i < (lOv x).1 → ∀ j, j < 3 → (lOv x).2 (3 * i + j) = s (546 + 3 * (10 * l + i) + j)) ∧ (s (786 + l) = nI (lSc x) ∧ lSc x ≤ 120) ∧ ∀ i, i < lSc x → enc (lSt x i) (s (794 + 140 * l + i))
def Rl (wd : WT) (s : Nat → Int32) : Prop := (s 0 = nI (wCh wd).1 ∧ (wCh wd).1 ≤ 8) ∧ (s 1 = nI (wAs wd).1 ∧ (wAs wd).1 ≤ 16) ∧ (s 2 = nI (wAn wd).1 ∧ (wAn wd).1 ≤ 40) ∧ (s 3 = nI (wLc wd) ∧ wLc wd ≤ 8) ∧ (s 4 = nI (wTp wd).1 ∧ (wTp wd).1 ≤ 120) ∧
  (∀ c, c < (wCh wd).1 → (wCh wd).2 (5 * c) = s (130 + c) ∧ ∀ k, k < 4 → tR ((wCh wd).2 (5 * c + 1 + k)) (s (138 + 4 * c + k))) ∧
  (∀ a, a < (wAs wd).1 → ∀ j, j < 7 → (wAs wd).2 (7 * a + j) = s (170 + 16 * j + a)) ∧
  (∀ a, a < (wAn wd).1 → ∀ j, j < 5 → (wAn wd).2 (5 * a + j) = s (282 + 40 * j + a)) ∧
  (∀ l, l < wLc wd → lRel (wLw wd l) s l) ∧ ∀ i, i < (wTp wd).1 → (wTp wd).2.2 i &&& 255 = s (10 + i)
theorem Rl.c0 {wd : WT} {s : Nat → Int32} (h : Rl wd s) : s 0 = nI (wCh wd).1 ∧ (wCh wd).1 ≤ 8 := h.1
theorem Rl.c1 {wd : WT} {s : Nat → Int32} (h : Rl wd s) : s 1 = nI (wAs wd).1 ∧ (wAs wd).1 ≤ 16 := h.2.1
theorem Rl.c2 {wd : WT} {s : Nat → Int32} (h : Rl wd s) : s 2 = nI (wAn wd).1 ∧ (wAn wd).1 ≤ 40 := h.2.2.1
theorem Rl.c3 {wd : WT} {s : Nat → Int32} (h : Rl wd s) : s 3 = nI (wLc wd) ∧ wLc wd ≤ 8 := h.2.2.2.1
theorem Rl.c4 {wd : WT} {s : Nat → Int32} (h : Rl wd s) : s 4 = nI (wTp wd).1 ∧ (wTp wd).1 ≤ 120 := h.2.2.2.2.1
theorem Rl.ch {wd : WT} {s : Nat → Int32} (h : Rl wd s) {c : Nat} (hc : c < (wCh wd).1) : (wCh wd).2 (5 * c) = s (130 + c) ∧ ∀ k, k < 4 → tR ((wCh wd).2 (5 * c + 1 + k)) (s (138 + 4 * c + k)) := h.2.2.2.2.2.1 c hc
theorem Rl.as {wd : WT} {s : Nat → Int32} (h : Rl wd s) {a : Nat} (ha : a < (wAs wd).1) {j : Nat} (hj : j < 7) : (wAs wd).2 (7 * a + j) = s (170 + 16 * j + a) := h.2.2.2.2.2.2.1 a ha j hj
theorem Rl.an {wd : WT} {s : Nat → Int32} (h : Rl wd s) {a : Nat} (ha : a < (wAn wd).1) {j : Nat} (hj : j < 5) : (wAn wd).2 (5 * a + j) = s (282 + 40 * j + a) := h.2.2.2.2.2.2.2.1 a ha j hj
theorem Rl.lw {wd : WT} {s : Nat → Int32} (h : Rl wd s) {l : Nat} (hl : l < wLc wd) : lRel (wLw wd l) s l := h.2.2.2.2.2.2.2.2.1 l hl
theorem Rl.tp {wd : WT} {s : Nat → Int32} (h : Rl wd s) {i : Nat} (hi : i < (wTp wd).1) : (wTp wd).2.2 i &&& 255 = s (10 + i) := h.2.2.2.2.2.2.2.2.2 i hi
/-- a number below a count, either way -/
theorem has_in (n : Nat) (hn : n ≤ 1000) (c : Int32) : r_in c 0 (nI n - 1) = f_has (n, fun _ => 0) c := by
  unfold r_in f_has
  by_cases q : c < 0
  · rw [if_pos q, if_pos q]
  · rw [if_neg q, if_neg q]
    obtain ⟨j, hj, rfl⟩ := nI_of q
    rcases Nat.eq_zero_or_pos n with rfl | hp
    · have e : nI 0 - 1 = -1 := by decide
      rw [e, if_pos (nI_le (Nat.zero_le _) hj)]
      have : (-1 : Int32) < nI j := by
        apply Int32.lt_iff_toInt_lt.mpr
        rw [nI_toInt hj]
        have : (-1 : Int32).toInt = -1 := rfl
        omega
      rw [if_pos this]
    · obtain ⟨m, rfl⟩ : ∃ m, n = m + 1 := ⟨n - 1, by omega⟩
      rw [nI_pred]
      show (if nI m < nI j then false else true) = if nI (m + 1) ≤ nI j then false else true
      by_cases z : m + 1 ≤ j
      · rw [if_pos (nI_lt (by omega) hj), if_pos (nI_le z hj)]
      · rw [if_neg (nI_nlt (by omega) (by omega)), if_neg (nI_ge (by omega) (by omega))]
theorem has_sz (x : RwT) (c : Int32) : f_has x c = f_has (x.1, fun _ => 0) c := rfl
theorem has_ex {x : RwT} {c : Int32} (h : f_has x c = true) (hx : x.1 ≤ 1000) : ∃ n : Nat, c = nI n ∧ n < x.1 := by
  unfold f_has at h
  by_cases q : c < 0
  · rw [if_pos q] at h; cases h
  · rw [if_neg q] at h
    obtain ⟨j, hj, rfl⟩ := nI_of q
    by_cases z : nI x.1 ≤ nI j
    · rw [if_pos z] at h; cases h
    · refine ⟨j, rfl, ?_⟩
      rcases Nat.lt_or_ge j x.1 with w | w
      · exact w
      · exact absurd (nI_le w hj) z
theorem isChild_eq {wd : WT} {x : MT} (h : Rl wd (mS x)) (c : Int32) : r_isChild x c = f_has (wCh wd) c := by
  unfold r_isChild
  rw [show (mS x) (0 : Int32).toNatClampNeg = nI (wCh wd).1 from h.c0.1]
  exact (has_in _ (by have := h.c0.2; omega) c).trans (has_sz _ _).symm
theorem isAsking_eq {wd : WT} {x : MT} (h : Rl wd (mS x)) (c : Int32) : r_isAsking x c = f_has (wAs wd) c := by
  unfold r_isAsking
  rw [show (mS x) (1 : Int32).toNatClampNeg = nI (wAs wd).1 from h.c1.1]
  exact (has_in _ (by have := h.c1.2; omega) c).trans (has_sz _ _).symm
theorem isAnswer_eq {wd : WT} {x : MT} (h : Rl wd (mS x)) (c : Int32) : r_isAnswer x c = f_has (wAn wd) c := by
  unfold r_isAnswer
  rw [show (mS x) (2 : Int32).toNatClampNeg = nI (wAn wd).1 from h.c2.1]
  exact (has_in _ (by have := h.c2.2; omega) c).trans (has_sz _ _).symm
theorem hasLaw_has {wd : WT} (hl : wLc wd ≤ 8) (c : Int32) : w_hasLaw wd c = f_has (wLc wd, fun _ => 0) c := by
  unfold w_hasLaw f_has
  by_cases q : c < 0
  · rw [if_pos q, if_pos q]
  · rw [if_neg q, if_neg q]
    by_cases z : nI (wLc wd) ≤ c
    · rw [if_pos z, if_pos z]
    · rw [if_neg z, if_neg z]
      obtain ⟨j, hj, rfl⟩ := nI_of q
      have hj2 : j < wLc wd := by
        rcases Nat.lt_or_ge j (wLc wd) with w | w
        · exact w
        · exact absurd (nI_le w hj) z
      rw [if_neg (show ¬ (8 : Int32) ≤ nI j from nI_ge (b := 8) (by omega) (by decide))]
theorem isLaw_eq {wd : WT} {x : MT} (h : Rl wd (mS x)) (c : Int32) : r_isLaw x c = w_hasLaw wd c := by
  unfold r_isLaw
  rw [show (mS x) (3 : Int32).toNatClampNeg = nI (wLc wd) from h.c3.1, hasLaw_has h.c3.2]
  exact has_in _ (by have := h.c3.2; omega) c
theorem law_ex {wd : WT} {c : Int32} (h : w_hasLaw wd c = true) (hl : wLc wd ≤ 8) : ∃ n : Nat, c = nI n ∧ n < wLc wd := by
  rw [hasLaw_has hl] at h
  exact has_ex h (show wLc wd ≤ 1000 by omega)
theorem isStuff_eq (k : Int32) : r_isStuff k = f_isStuff k := by
  unfold r_isStuff r_in f_isStuff
  by_cases q : k < 0
  · rw [if_pos q, if_pos q]
  · rw [if_neg q, if_neg q]
    obtain ⟨j, hj, rfl⟩ := nI_of q
    by_cases z : 4 ≤ j
    · rw [if_pos (show (3 : Int32) < nI j from nI_lt (a := 3) (by omega) hj), if_pos (show (4 : Int32) ≤ nI j from nI_le (a := 4) z hj)]
    · rw [if_neg (show ¬ (3 : Int32) < nI j from nI_nlt (a := 3) (by omega) (by decide)), if_neg (show ¬ (4 : Int32) ≤ nI j from nI_ge (b := 4) (by omega) (by decide))]
theorem stuff_ex {k : Int32} (h : f_isStuff k = true) : ∃ n : Nat, k = nI n ∧ n < 4 := by
  unfold f_isStuff at h
  by_cases q : k < 0
  · rw [if_pos q] at h; cases h
  · rw [if_neg q] at h
    obtain ⟨j, hj, rfl⟩ := nI_of q
    refine ⟨j, rfl, ?_⟩
    rcases Nat.lt_or_ge j 4 with w | w
    · exact w
    · rw [if_pos (show (4 : Int32) ≤ nI j from nI_le (a := 4) w hj)] at h; cases h
/-- what stands at a place of a class's rows -/
theorem at_eq {nw : Nat} {x : RwT} {r c : Nat} (hx : x.1 ≤ 1000) (hr : r < x.1) (hw : nw ≤ 8) (hc : c < nw) : f_at nw x (nI r) (nI c) = x.2 (nw * r + c) := by
  unfold f_at
  rw [if_neg (nI_pos (by omega)), if_neg (nI_ge hr (by omega)), if_neg (nI_pos (by omega)), if_neg (nI_ge hc (by omega)), pk_mul, nI_add]
  have hb : r * nw ≤ 1000 * 8 := Nat.mul_le_mul (by omega) hw
  rw [nI_clamp (by omega), Nat.mul_comm r nw]
theorem cl2 {a n : Nat} (h : a + n < 2 ^ 31) : (nI a + nI n).toNatClampNeg = a + n := by rw [nI_add, nI_clamp h]
theorem Rl.age {wd : WT} {s : Nat → Int32} (h : Rl wd s) {c : Nat} (hc : c < (wCh wd).1) : f_at 5 (wCh wd) (nI c) 0 = s (130 + nI c).toNatClampNeg := by
  have h0 := h.c0.2
  rw [show f_at 5 (wCh wd) (nI c) 0 = f_at 5 (wCh wd) (nI c) (nI 0) from rfl, at_eq (by omega) hc (by decide) (by decide), show (130 : Int32) = nI 130 from rfl, cl2 (by omega)]
  exact (h.ch hc).1
theorem Rl.asg {wd : WT} {s : Nat → Int32} (h : Rl wd s) {a : Nat} (ha : a < (wAs wd).1) {j : Nat} (hj : j < 7) : f_at 7 (wAs wd) (nI a) (nI j) = s (170 + 16 * j + a) := by
  have h0 := h.c1.2
  rw [at_eq (by omega) ha (by decide) hj]
  exact h.as ha hj
theorem Rl.ans {wd : WT} {s : Nat → Int32} (h : Rl wd s) {a : Nat} (ha : a < (wAn wd).1) {j : Nat} (hj : j < 5) : f_at 5 (wAn wd) (nI a) (nI j) = s (282 + 40 * j + a) := by
  have h0 := h.c2.2
  rw [at_eq (by omega) ha (by decide) hj]
  exact h.an ha hj
/-! the readers -/
theorem in7 (w : Int32) (n : Nat) (hn : n ≤ 900) : r_in w 0 (nI n) = if w < 0 then false else if nI (n + 1) ≤ w then false else true := by
  have := has_in (n + 1) (by omega) w
  rw [nI_pred] at this
  exact this
theorem eq_age {wd : WT} {x : MT} (h : Rl wd (mS x)) (c : Int32) : s_age wd c = r_age x c := by
  unfold s_age r_age
  rw [isChild_eq h]
  by_cases q : f_has (wCh wd) c = true
  · rw [if_pos q, if_pos q]
    obtain ⟨n, rfl, hn⟩ := has_ex q (by have := h.c0.2; omega)
    exact h.age hn
  · rw [if_neg q, if_neg q]
theorem eq_of {wd : WT} {x : MT} (h : Rl wd (mS x)) (a w : Int32) : s_of wd a w = r_of x a w := by
  unfold s_of r_of
  rw [isAsking_eq h, show r_in w 0 6 = _ from in7 w 6 (by decide)]
  by_cases q : f_has (wAs wd) a = true
  · rw [if_pos q, if_pos q]
    by_cases p : w < 0
    · rw [if_pos p, if_pos p, if_neg (by decide)]
    · rw [if_neg p, if_neg p]
      by_cases z : (7 : Int32) ≤ w
      · rw [if_pos z, if_pos (show nI 7 ≤ w from z), if_neg (by decide)]
      · rw [if_neg z, if_neg (show ¬ nI 7 ≤ w from z), if_pos rfl]
        obtain ⟨n, rfl, hn⟩ := has_ex q (by have := h.c1.2; omega)
        obtain ⟨j, hj, rfl⟩ := nI_of p
        have hj7 : j < 7 := by
          rcases Nat.lt_or_ge j 7 with w | w
          · exact w
          · exact absurd (nI_le w hj) z
        have h0 := h.c1.2
        rw [h.asg hn hj7, show (170 : Int32) = nI 170 from rfl, show (16 : Int32) = nI 16 from rfl, pk_mul, nI_add, cl2 (by omega)]
  · rw [if_neg q, if_neg q]
theorem eq_answered {wd : WT} {x : MT} (h : Rl wd (mS x)) (a w : Int32) : s_answered wd a w = r_answered x a w := by
  unfold s_answered r_answered
  rw [isAnswer_eq h, show r_in w 0 4 = _ from in7 w 4 (by decide)]
  by_cases q : f_has (wAn wd) a = true
  · rw [if_pos q, if_pos q]
    by_cases p : w < 0
    · rw [if_pos p, if_pos p, if_neg (by decide)]
    · rw [if_neg p, if_neg p]
      by_cases z : (5 : Int32) ≤ w
      · rw [if_pos z, if_pos (show nI 5 ≤ w from z), if_neg (by decide)]
      · rw [if_neg z, if_neg (show ¬ nI 5 ≤ w from z), if_pos rfl]
        obtain ⟨n, rfl, hn⟩ := has_ex q (by have := h.c2.2; omega)
        obtain ⟨j, hj, rfl⟩ := nI_of p
        have hj5 : j < 5 := by
          rcases Nat.lt_or_ge j 5 with w | w
          · exact w
          · exact absurd (nI_le w hj) z
        have h0 := h.c2.2
        rw [h.ans hn hj5, show (282 : Int32) = nI 282 from rfl, show (40 : Int32) = nI 40 from rfl, pk_mul, nI_add, cl2 (by omega)]
  · rw [if_neg q, if_neg q]

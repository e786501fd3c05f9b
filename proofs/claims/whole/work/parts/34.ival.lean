/-! numbers between bounds, for the places of the reference's rows -/
def ib (lo hi : Int) (x : Int32) : Prop := lo ≤ x.toInt ∧ x.toInt ≤ hi
theorem ib.weak {lo hi lo2 hi2 : Int} {x : Int32} (h : ib lo hi x) (h1 : lo2 ≤ lo) (h2 : hi ≤ hi2) : ib lo2 hi2 x := ⟨Int.le_trans h1 h.1, Int.le_trans h.2 h2⟩
theorem ib_nI {n : Nat} (h : n < 2 ^ 31) : ib n n (nI n) := by
  have e : (nI n).toInt = n := Int32.toInt_ofNat_of_lt h
  exact ⟨by rw [e]; exact Int.le_refl _, by rw [e]; exact Int.le_refl _⟩
theorem ib_add {a b c d : Int} {x y : Int32} (hx : ib a b x) (hy : ib c d y) (h1 : -2 ^ 31 ≤ a + c) (h2 : b + d < 2 ^ 31) : ib (a + c) (b + d) (x + y) := by
  obtain ⟨x1, x2⟩ := hx
  obtain ⟨y1, y2⟩ := hy
  have e : (x + y).toInt = x.toInt + y.toInt := by
    rw [Int32.toInt_add]
    exact Int.bmod_eq_of_le (by omega) (by omega)
  exact ⟨by rw [e]; omega, by rw [e]; omega⟩
theorem ib_sub {a b c d : Int} {x y : Int32} (hx : ib a b x) (hy : ib c d y) (h1 : -2 ^ 31 ≤ a - d) (h2 : b - c < 2 ^ 31) : ib (a - d) (b - c) (x - y) := by
  obtain ⟨x1, x2⟩ := hx
  obtain ⟨y1, y2⟩ := hy
  have e : (x - y).toInt = x.toInt - y.toInt := by
    rw [Int32.toInt_sub]
    exact Int.bmod_eq_of_le (by omega) (by omega)
  exact ⟨by rw [e]; omega, by rw [e]; omega⟩
/-- a number that is known times one between bounds -/
theorem ib_mulk {k : Nat} {c d : Int} {y : Int32} (hy : ib c d y) (hk : k < 2 ^ 31) (h1 : -2 ^ 31 ≤ k * c) (h2 : k * d < 2 ^ 31) : ib (k * c) (k * d) (nI k * y) := by
  obtain ⟨y1, y2⟩ := hy
  have e1 : (nI k).toInt = k := Int32.toInt_ofNat_of_lt hk
  have m1 : (k : Int) * c ≤ k * y.toInt := Int.mul_le_mul_of_nonneg_left y1 (Int.natCast_nonneg k)
  have m2 : (k : Int) * y.toInt ≤ k * d := Int.mul_le_mul_of_nonneg_left y2 (Int.natCast_nonneg k)
  have e : (nI k * y).toInt = k * y.toInt := by
    rw [Int32.toInt_mul, e1]
    exact Int.bmod_eq_of_le (by omega) (by omega)
  exact ⟨by rw [e]; exact m1, by rw [e]; exact m2⟩
theorem ib.clamp {lo hi : Int} {x : Int32} (h : ib lo hi x) (h0 : 0 ≤ lo) : lo ≤ (x.toNatClampNeg : Int) ∧ (x.toNatClampNeg : Int) ≤ hi := by
  obtain ⟨h1, h2⟩ := h
  have e : (x.toNatClampNeg : Int) = x.toInt := by
    show ((x.toInt.toNat : Nat) : Int) = x.toInt
    omega
  exact ⟨by rw [e]; exact h1, by rw [e]; exact h2⟩
theorem vp_ib {lo hi : Int} {x : Int32} {n : Nat} (h : ib lo hi x) (h0 : 0 ≤ lo) (hn : hi < n) : vp_in x n := by
  have hc := h.clamp h0
  intro q
  rcases q with q | q
  · have h2 : x.toInt < 0 := by simpa using Int32.lt_iff_toInt_lt.mp q
    have := h.1
    omega
  · omega
/-- what may stand at the places of the reference's row -/
def mRg : List (Nat × Nat × Int × Int) := [(0, 0, 0, 8), (1, 1, 0, 16), (2, 2, 0, 40), (3, 3, 0, 8), (4, 4, 0, 120), (10, 129, 0, 255), (130, 137, 0, 120), (138, 169, -1, 120), (170, 185, 0, 3), (186, 201, 0, 2), (202, 217, 0, 2), (218, 233, 0, 1), (234, 249, 0, 3), (250, 265, -9, 9), (266, 281, -1, 1), (282, 321, 0, 7), (322, 361, 0, 15), (362, 401, 0, 2), (402, 441, 0, 1), (442, 481, 0, 120), (482, 489, 0, 6), (490, 497, 0, 9), (498, 505, 0, 100), (506, 537, 0, 999), (538, 545, 0, 10), (546, 785, 0, 999), (786, 793, 0, 120), (794, 1913, -12, 33000)]
def mI (s : Nat → Int32) : Prop := ∀ (j : Nat) (r : Nat × Nat × Int × Int), r ∈ mRg → r.1 ≤ j → j ≤ r.2.1 → ib r.2.2.1 r.2.2.2 (s j)
theorem mI.at {s : Nat → Int32} (h : mI s) {i : Int32} {a b : Int} {lo hi : Nat} {x y : Int} (hi9 : ib a b i) (ha : (lo : Int) ≤ a) (hb : b ≤ hi) (hm : (lo, hi, x, y) ∈ mRg) : ib x y (s i.toNatClampNeg) := by
  have hc := hi9.clamp (by omega)
  exact h i.toNatClampNeg (lo, hi, x, y) hm (show lo ≤ i.toNatClampNeg by omega) (show i.toNatClampNeg ≤ hi by omega)
theorem mI.put {s : Nat → Int32} (h : mI s) {j : Nat} {v : Int32} (hv : ∀ r : Nat × Nat × Int × Int, r ∈ mRg → r.1 ≤ j → j ≤ r.2.1 → ib r.2.2.1 r.2.2.2 v) : mI (upd s j v) := by
  intro k r hr h1 h2
  unfold upd
  by_cases e : k = j
  · subst e
    simpa using hv r hr h1 h2
  · simpa [e] using h k r hr h1 h2

/-- the STUFFs of the reference's overs are STUFFs -/
def mO (s : Nat → Int32) : Prop := ∀ i : Nat, i < 80 → ib 0 3 (s (546 + 3 * i)) ∧ ib 0 3 (s (546 + 3 * i + 1))
theorem ib_lt {k n : Nat} (h : k < n) (hn : n < 2 ^ 31) : ib 0 ((n : Int) - 1) (nI k) := by
  have e : (nI k).toInt = k := Int32.toInt_ofNat_of_lt (by omega)
  exact ⟨by rw [e]; omega, by rw [e]; omega⟩
theorem ib.nI_eq {lo hi : Int} {x : Int32} (h : ib lo hi x) (h0 : 0 ≤ lo) : ∃ n : Nat, x = nI n ∧ lo ≤ n ∧ (n : Int) ≤ hi := by
  have hc := h.clamp h0
  have h2 := h.1
  refine ⟨x.toNatClampNeg, (nI_back ?_).symm, hc.1, hc.2⟩
  intro q
  have h3 : x.toInt < 0 := by simpa using Int32.lt_iff_toInt_lt.mp q
  omega
theorem over_at {l : Int32} {k : Nat} (hl : ib 0 7 l) (hk : k < 10) : ∃ i : Nat, i < 80 ∧ (546 + (3 * ((10 * l) + (nI k))) : Int32).toNatClampNeg = 546 + 3 * i := by
  obtain ⟨n, rfl, h1, h2⟩ := hl.nI_eq (by decide)
  refine ⟨10 * n + k, by omega, ?_⟩
  rw [show (546 : Int32) + 3 * (10 * nI n + nI k) = nI (546 + 3 * (10 * n + k)) from by
    rw [show (10 : Int32) = nI 10 from rfl, show (3 : Int32) = nI 3 from rfl, show (546 : Int32) = nI 546 from rfl, pk_mul, nI_add, pk_mul, nI_add]]
  exact nI_clamp (by omega)
theorem over_ib {s : Nat → Int32} (hO : mO s) {l : Int32} {k : Nat} (hl : ib 0 7 l) (hk : k < 10) : ib 0 3 (s (546 + (3 * ((10 * l) + (nI k))) : Int32).toNatClampNeg) := by
  obtain ⟨i, hi, e⟩ := over_at hl hk
  rw [e]
  exact (hO i hi).1

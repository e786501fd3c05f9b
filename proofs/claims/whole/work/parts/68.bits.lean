/-! how many bits: the JDK's way, a byte at a time, and the reference's, one by one -/
theorem and_by (x m : Nat) : x &&& m = (x % 256 &&& m % 256) + 256 * (x / 256 &&& m / 256) := by
  have h1 : (x &&& m) % 2 ^ 8 = (x % 2 ^ 8) &&& (m % 2 ^ 8) := Nat.and_mod_two_pow
  have h2 : (x &&& m) / 2 ^ 8 = x / 2 ^ 8 &&& m / 2 ^ 8 := Nat.and_div_two_pow
  have h3 := Nat.mod_add_div (x &&& m) (2 ^ 8)
  rw [h1, h2] at h3
  exact h3.symm
def bc1 (a : Nat) : Nat := a - (a / 2 &&& 85)
def bc2 (a : Nat) : Nat := (a &&& 51) + (a / 4 &&& 51)
def bc3 (a : Nat) : Nat := (a + a / 16) % 16
def bc8 (a : Nat) : Nat := bc3 (bc2 (bc1 a))
theorem bc1_le : ∀ a, a < 256 → (a / 2 &&& 85) ≤ a ∧ bc1 a < 256 ∧ bc2 (bc1 a) / 16 ≤ 4 ∧ bc2 (bc1 a) % 16 ≤ 4 ∧ bc2 (bc1 a) < 256 ∧ bc8 a ≤ 8 := by decide +kernel
theorem bc1_hi : ∀ a, a < 256 → ∀ c, c < 2 → (a / 2 + 128 * c) &&& 85 = a / 2 &&& 85 := by decide +kernel
theorem bc2_hi : ∀ a, a < 256 → ∀ c, c < 4 → (a / 4 + 64 * c) &&& 51 = a / 4 &&& 51 := by decide +kernel
theorem st1 {a b m : Nat} (ha : a < 256) (hm : (b / 2 &&& m) ≤ b) : (a + 256 * b) - ((a + 256 * b) / 2 &&& (85 + 256 * m)) = bc1 a + 256 * (b - (b / 2 &&& m)) ∧ ((a + 256 * b) / 2 &&& (85 + 256 * m)) ≤ a + 256 * b := by
  have h := and_by ((a + 256 * b) / 2) (85 + 256 * m)
  have e1 : (a + 256 * b) / 2 % 256 = a / 2 + 128 * (b % 2) := by omega
  have e2 : (a + 256 * b) / 2 / 256 = b / 2 := by omega
  have e3 : (85 + 256 * m) % 256 = 85 := by omega
  have e4 : (85 + 256 * m) / 256 = m := by omega
  rw [e1, e2, e3, e4, bc1_hi a ha _ (Nat.mod_lt _ (by decide))] at h
  have hl := (bc1_le a ha).1
  rw [h]
  unfold bc1
  generalize (a / 2 &&& 85) = u at hl ⊢
  generalize (b / 2 &&& m) = v at hm ⊢
  omega
theorem st2 {a b m : Nat} (ha : a < 256) : (a + 256 * b &&& (51 + 256 * m)) + ((a + 256 * b) / 4 &&& (51 + 256 * m)) = bc2 a + 256 * ((b &&& m) + (b / 4 &&& m)) := by
  have h := and_by (a + 256 * b) (51 + 256 * m)
  have k := and_by ((a + 256 * b) / 4) (51 + 256 * m)
  have e1 : (a + 256 * b) / 4 % 256 = a / 4 + 64 * (b % 4) := by omega
  have e2 : (a + 256 * b) / 4 / 256 = b / 4 := by omega
  have e3 : (51 + 256 * m) % 256 = 51 := by omega
  have e4 : (51 + 256 * m) / 256 = m := by omega
  have e5 : (a + 256 * b) % 256 = a := by omega
  have e6 : (a + 256 * b) / 256 = b := by omega
  rw [e5, e6, e3, e4] at h
  rw [e1, e2, e3, e4, bc2_hi a ha _ (Nat.mod_lt _ (by decide))] at k
  rw [h, k]
  unfold bc2
  omega
theorem and15 (x : Nat) : x &&& 15 = x % 16 := Nat.and_two_pow_sub_one_eq_mod x 4
theorem st3 {a b m : Nat} (h1 : a / 16 ≤ 4) (h2 : a % 16 ≤ 4) (h3 : b % 16 ≤ 4) : (a + 256 * b + (a + 256 * b) / 16 &&& (15 + 256 * m)) = bc3 a + 256 * (b + b / 16 &&& m) := by
  have h := and_by (a + 256 * b + (a + 256 * b) / 16) (15 + 256 * m)
  have e1 : (a + 256 * b + (a + 256 * b) / 16) % 256 = a + a / 16 + 16 * (b % 16) := by omega
  have e2 : (a + 256 * b + (a + 256 * b) / 16) / 256 = b + b / 16 := by omega
  have e3 : (15 + 256 * m) % 256 = 15 := by omega
  have e4 : (15 + 256 * m) / 256 = m := by omega
  rw [e1, e2, e3, e4, and15] at h
  rw [h]
  unfold bc3
  omega
theorem bc_end {g0 g1 g2 g3 : Nat} (h0 : g0 ≤ 8) (h1 : g1 ≤ 8) (h2 : g2 ≤ 8) (h3 : g3 ≤ 8) : (g0 + 256 * (g1 + 256 * (g2 + 256 * g3)) + (g0 + 256 * (g1 + 256 * (g2 + 256 * g3))) / 256 + (g0 + 256 * (g1 + 256 * (g2 + 256 * g3)) + (g0 + 256 * (g1 + 256 * (g2 + 256 * g3))) / 256) / 65536) % 64 = g0 + g1 + g2 + g3 := by
  have e1 : (g0 + 256 * (g1 + 256 * (g2 + 256 * g3))) / 256 = g1 + 256 * (g2 + 256 * g3) := by omega
  rw [e1]
  have e2 : (g0 + 256 * (g1 + 256 * (g2 + 256 * g3)) + (g1 + 256 * (g2 + 256 * g3))) / 65536 = g2 + g3 + 256 * g3 := by omega
  rw [e2]
  omega
/-- the JDK's steps, over numbers -/
def bcN (n : Nat) : Nat :=
  let a := n - (n / 2 &&& 1431655765)
  let b := (a &&& 858993459) + (a / 4 &&& 858993459)
  let c := b + b / 16 &&& 252645135
  let d := c + c / 256
  (d + d / 65536) % 64
theorem bcN_eq {a0 a1 a2 a3 : Nat} (h0 : a0 < 256) (h1 : a1 < 256) (h2 : a2 < 256) (h3 : a3 < 256) : bcN (a0 + 256 * (a1 + 256 * (a2 + 256 * a3))) = bc8 a0 + bc8 a1 + bc8 a2 + bc8 a3 := by
  obtain ⟨p0, q0, r0, s0, t0, u0⟩ := bc1_le a0 h0
  obtain ⟨p1, q1, r1, s1, t1, u1⟩ := bc1_le a1 h1
  obtain ⟨p2, q2, r2, s2, t2, u2⟩ := bc1_le a2 h2
  obtain ⟨p3, q3, r3, s3, t3, u3⟩ := bc1_le a3 h3
  have z3 : a3 - (a3 / 2 &&& 85) = bc1 a3 := rfl
  obtain ⟨x2, y2⟩ := st1 (b := a3) (m := 85) h2 p3
  obtain ⟨x1, y1⟩ := st1 (b := a2 + 256 * a3) (m := 85 + 256 * 85) h1 y2
  obtain ⟨x0, -⟩ := st1 (b := a1 + 256 * (a2 + 256 * a3)) (m := 85 + 256 * (85 + 256 * 85)) h0 y1
  rw [x2, z3] at x1
  rw [x1] at x0
  have w0 := st2 (a := bc1 a0) (b := bc1 a1 + 256 * (bc1 a2 + 256 * bc1 a3)) (m := 51 + 256 * (51 + 256 * 51)) q0
  have w1 := st2 (a := bc1 a1) (b := bc1 a2 + 256 * bc1 a3) (m := 51 + 256 * 51) q1
  have w2 := st2 (a := bc1 a2) (b := bc1 a3) (m := 51) q2
  have w3 : (bc1 a3 &&& 51) + (bc1 a3 / 4 &&& 51) = bc2 (bc1 a3) := rfl
  rw [w3] at w2
  rw [w2] at w1
  rw [w1] at w0
  generalize e0 : bc2 (bc1 a0) = b0 at *
  generalize e1 : bc2 (bc1 a1) = b1 at *
  generalize e2 : bc2 (bc1 a2) = b2 at *
  generalize e3 : bc2 (bc1 a3) = b3 at *
  have v0 := st3 (a := b0) (b := b1 + 256 * (b2 + 256 * b3)) (m := 15 + 256 * (15 + 256 * 15)) r0 s0 (by omega)
  have v1 := st3 (a := b1) (b := b2 + 256 * b3) (m := 15 + 256 * 15) r1 s1 (by omega)
  have v2 := st3 (a := b2) (b := b3) (m := 15) r2 s2 s3
  have v3 : (b3 + b3 / 16 &&& 15) = bc3 b3 := and15 _
  rw [v3] at v2
  rw [v2] at v1
  rw [v1] at v0
  unfold bcN
  have c1 : (1431655765 : Nat) = 85 + 256 * (85 + 256 * (85 + 256 * 85)) := by decide
  have c2 : (858993459 : Nat) = 51 + 256 * (51 + 256 * (51 + 256 * 51)) := by decide
  have c3 : (252645135 : Nat) = 15 + 256 * (15 + 256 * (15 + 256 * 15)) := by decide
  rw [c1, c2, c3]
  dsimp only
  rw [x0, w0, v0]
  have u0 : bc3 (bc2 (bc1 a0)) ≤ 8 := u0
  have u1 : bc3 (bc2 (bc1 a1)) ≤ 8 := u1
  have u2 : bc3 (bc2 (bc1 a2)) ≤ 8 := u2
  have u3 : bc3 (bc2 (bc1 a3)) ≤ 8 := u3
  rw [e0] at u0
  rw [e1] at u1
  rw [e2] at u2
  rw [e3] at u3
  show _ = bc3 (bc2 (bc1 a0)) + bc3 (bc2 (bc1 a1)) + bc3 (bc2 (bc1 a2)) + bc3 (bc2 (bc1 a3))
  rw [e0, e1, e2, e3]
  exact bc_end u0 u1 u2 u3
/-- bits one by one -/
def cnt (n : Nat) : Nat → Nat
  | 0 => 0
  | k + 1 => cnt n k + n / 2 ^ k % 2
theorem cnt_hi (n c : Nat) : ∀ k, cnt n (c + k) = cnt n c + cnt (n / 2 ^ c) k
  | 0 => rfl
  | k + 1 => by
    show cnt n (c + k) + n / 2 ^ (c + k) % 2 = cnt n c + (cnt (n / 2 ^ c) k + n / 2 ^ c / 2 ^ k % 2)
    rw [cnt_hi n c k, Nat.div_div_eq_div_mul, Nat.pow_add, Nat.add_assoc]
theorem cnt_lo (n : Nat) : cnt n 8 = cnt (n % 256) 8 := by
  show 0 + n / 1 % 2 + n / 2 % 2 + n / 4 % 2 + n / 8 % 2 + n / 16 % 2 + n / 32 % 2 + n / 64 % 2 + n / 128 % 2 = 0 + n % 256 / 1 % 2 + n % 256 / 2 % 2 + n % 256 / 4 % 2 + n % 256 / 8 % 2 + n % 256 / 16 % 2 + n % 256 / 32 % 2 + n % 256 / 64 % 2 + n % 256 / 128 % 2
  omega
theorem cnt_8 : ∀ a, a < 256 → cnt a 8 = bc8 a := by decide +kernel
theorem cnt_6 : ∀ a, a < 64 → cnt a 6 = bc8 a := by decide +kernel
theorem cnt_eq {n : Nat} (h : n < 2 ^ 30) : cnt n 30 = bcN n := by
  have e1 := cnt_hi n 8 22
  have e2 := cnt_hi (n / 2 ^ 8) 8 14
  have e3 := cnt_hi (n / 2 ^ 8 / 2 ^ 8) 8 6
  have l0 := cnt_lo n
  have l1 := cnt_lo (n / 2 ^ 8)
  have l2 := cnt_lo (n / 2 ^ 8 / 2 ^ 8)
  have b0 := cnt_8 (n % 256) (Nat.mod_lt _ (by decide))
  have b1 := cnt_8 (n / 2 ^ 8 % 256) (Nat.mod_lt _ (by decide))
  have b2 := cnt_8 (n / 2 ^ 8 / 2 ^ 8 % 256) (Nat.mod_lt _ (by decide))
  have b3 := cnt_6 (n / 2 ^ 8 / 2 ^ 8 / 2 ^ 8) (by omega)
  have hb := bcN_eq (a0 := n % 256) (a1 := n / 2 ^ 8 % 256) (a2 := n / 2 ^ 8 / 2 ^ 8 % 256) (a3 := n / 2 ^ 8 / 2 ^ 8 / 2 ^ 8) (Nat.mod_lt _ (by decide)) (Nat.mod_lt _ (by decide)) (Nat.mod_lt _ (by decide)) (by omega)
  have en : n % 256 + 256 * (n / 2 ^ 8 % 256 + 256 * (n / 2 ^ 8 / 2 ^ 8 % 256 + 256 * (n / 2 ^ 8 / 2 ^ 8 / 2 ^ 8))) = n := by omega
  rw [en] at hb
  have e1 : cnt n 30 = cnt n 8 + cnt (n / 2 ^ 8) 22 := e1
  have e2 : cnt (n / 2 ^ 8) 22 = cnt (n / 2 ^ 8) 8 + cnt (n / 2 ^ 8 / 2 ^ 8) 14 := e2
  have e3 : cnt (n / 2 ^ 8 / 2 ^ 8) 14 = cnt (n / 2 ^ 8 / 2 ^ 8) 8 + cnt (n / 2 ^ 8 / 2 ^ 8 / 2 ^ 8) 6 := e3
  omega
/-- the same over ints -/
theorem uN {n : Nat} (h : n < 2 ^ 31) (s : Nat) (hs : s < 31) : ((nI n).toUInt32 >>> ((nI s : Int32).toUInt32 &&& Int32.toUInt32 31)).toInt32 = nI (n / 2 ^ s) := by
  refine pk_ushrN (by omega) (nI s) s ?_
  have : ∀ s, s < 31 → (((nI s : Int32).toUInt32 &&& Int32.toUInt32 31).toBitVec % 32).toNat = s := by decide
  exact this s hs
theorem aN {n m : Nat} (h : n < 2 ^ 31) (hm : m < 2 ^ 31) : nI n &&& nI m = nI (n &&& m) := by
  have hl : n &&& m < 2 ^ 31 := Nat.and_lt_two_pow _ hm
  apply Int32.toBitVec_inj.mp
  apply BitVec.eq_of_toNat_eq
  rw [Int32.toBitVec_and, BitVec.toNat_and, pk_tn (by omega), pk_tn (by omega), pk_tn (by omega)]
theorem bitCount_eq {n : Nat} (h : n < 2 ^ 30) : f_bitCount (nI n) = nI (bcN n) := by
  have l1 : (n / 2 &&& 1431655765) ≤ n := Nat.le_trans Nat.and_le_left (by omega)
  unfold f_bitCount
  rw [show ((1 : Int32).toUInt32) = (nI 1 : Int32).toUInt32 from rfl, show ((2 : Int32).toUInt32) = (nI 2 : Int32).toUInt32 from rfl, show ((4 : Int32).toUInt32) = (nI 4 : Int32).toUInt32 from rfl, show ((8 : Int32).toUInt32) = (nI 8 : Int32).toUInt32 from rfl, show ((16 : Int32).toUInt32) = (nI 16 : Int32).toUInt32 from rfl]
  rw [show (1431655765 : Int32) = nI 1431655765 from rfl, show (858993459 : Int32) = nI 858993459 from rfl, show (252645135 : Int32) = nI 252645135 from rfl]
  rw [uN (by omega) 1 (by decide), aN (by omega) (by decide), nI_sub l1]
  generalize ea : n - (n / 2 ^ 1 &&& 1431655765) = a
  have ha : a < 2 ^ 30 := by omega
  rw [uN (by omega) 2 (by decide), aN (by omega) (by decide), aN (by omega) (by decide), nI_add]
  have ba : (a &&& 858993459) < 2 ^ 30 := Nat.and_lt_two_pow _ (by decide)
  have bb : (a / 2 ^ 2 &&& 858993459) < 2 ^ 29 := Nat.lt_of_le_of_lt Nat.and_le_left (by omega)
  generalize eb : (a &&& 858993459) + (a / 2 ^ 2 &&& 858993459) = b
  have hb : b < 2 ^ 30 + 2 ^ 29 := by omega
  rw [uN (by omega) 4 (by decide), nI_add, aN (by omega) (by decide)]
  have bc : (b + b / 2 ^ 4 &&& 252645135) < 2 ^ 28 := Nat.and_lt_two_pow _ (by decide)
  generalize ec : (b + b / 2 ^ 4 &&& 252645135) = c at bc ⊢
  rw [uN (by omega) 8 (by decide), nI_add]
  generalize ed : c + c / 2 ^ 8 = d
  have hd : d < 2 ^ 29 := by omega
  rw [uN (by omega) 16 (by decide), nI_add, pk_andN (m := 63) (by omega) 6 (by decide)]
  unfold bcN
  subst ed ec eb ea
  rfl
theorem bit_at {n k : Nat} (h : n < 2 ^ 31) (hk : k < 31) : (nI n >>> (nI k &&& 31)) &&& 1 = nI (n / 2 ^ k % 2) := by
  have e : ∀ k, k < 31 → ((nI k &&& 31 : Int32).toBitVec.smod 32).toNat = k := by decide
  rw [pk_shrN h (nI k &&& 31) k (e k hk)]
  have hd : n / 2 ^ k < 2 ^ 32 := Nat.lt_of_le_of_lt (Nat.div_le_self _ _) (by omega)
  exact pk_andN hd (m := 1) 1 (by decide)
theorem cnt1_it {n : Nat} (h : n < 2 ^ 31) : ∀ k, k ≤ 30 → r_count1It (nI n) 0 k = nI (cnt n k)
  | 0, _ => rfl
  | k + 1, hk => by
    have ih := cnt1_it h k (by omega)
    show r_count1It_st (nI n) k (r_count1It (nI n) 0 k) = nI (cnt n k + n / 2 ^ k % 2)
    unfold r_count1It_st
    rw [ih, bit_at h (by omega), nI_add]
theorem count1_eq {n : Nat} (h : n < 2 ^ 30) : r_count1 (nI n) = nI (cnt n 30) ∧ f_bitCount (nI n) = nI (cnt n 30) := by
  refine ⟨cnt1_it (by omega) 30 (Nat.le_refl _), ?_⟩
  rw [bitCount_eq h, cnt_eq h]
theorem cnt_le (n : Nat) : ∀ k, cnt n k ≤ k
  | 0 => Nat.le_refl _
  | k + 1 => by
    have ih := cnt_le n k
    show cnt n k + n / 2 ^ k % 2 ≤ k + 1
    omega

/-! fractions in lowest terms: a hundred steps are enough for two longs -/
def fbp9 : Nat → Nat × Nat
  | 0 => (0, 1)
  | n + 1 => ((fbp9 n).2, (fbp9 n).1 + (fbp9 n).2)
def fb9 (n : Nat) : Nat := (fbp9 n).1
theorem fb9_s (n : Nat) : fb9 (n + 2) = fb9 n + fb9 (n + 1) := rfl
theorem fb9_101 : 2 ^ 63 ≤ fb9 100 := by decide +kernel
def eT : Nat → Nat → Nat → Prop
  | 0, _, b => b = 0
  | n + 1, a, b => b = 0 ∨ eT n b (a % b)
theorem eT_fb : ∀ n a b : Nat, b < a → ¬ eT n a b → fb9 (n + 1) ≤ b ∧ fb9 (n + 2) ≤ a
  | 0, a, b, h, q => by
    have : b ≠ 0 := q
    have e1 : fb9 (0 + 1) = 1 := rfl
    have e2 : fb9 (0 + 2) = 1 := rfl
    rw [e1, e2]
    omega
  | n + 1, a, b, h, q => by
    have q1 : ¬ b = 0 := fun z => q (.inl z)
    have q2 : ¬ eT n b (a % b) := fun z => q (.inr z)
    have hb : 0 < b := by omega
    obtain ⟨i1, i2⟩ := eT_fb n b (a % b) (Nat.mod_lt _ hb) q2
    refine ⟨i2, ?_⟩
    have e : fb9 (n + 1 + 2) = fb9 (n + 1) + fb9 (n + 1 + 1) := fb9_s (n + 1)
    have i2 : fb9 (n + 1 + 1) ≤ b := i2
    have d := Nat.mod_add_div a b
    have d1 : 1 ≤ a / b := (Nat.one_le_div_iff hb).mpr (by omega)
    have d2 : b * 1 ≤ b * (a / b) := Nat.mul_le_mul_left b d1
    rw [e]
    omega
theorem eT_100 {a b : Nat} (hb : b < 2 ^ 63) : eT 100 a b := by
  refine Classical.byContradiction fun q => ?_
  have q1 : ¬ b = 0 := fun z => q (.inl z)
  have q2 : ¬ eT 99 b (a % b) := fun z => q (.inr z)
  have h := (eT_fb 99 b (a % b) (Nat.mod_lt _ (by omega)) q2).1
  have h1 := (eT_fb 99 b (a % b) (Nat.mod_lt _ (by omega)) q2).2
  have f1 := fb9_101
  have f2 : fb9 (99 + 1) = fb9 100 := rfl
  have h3 : a % b < b := Nat.mod_lt _ (by omega)
  omega
theorem lN_0 {b : Nat} (hb : b < 2 ^ 63) : (lg_cmp (lN b) 0 = 0) ↔ b = 0 := by
  rw [lg_cmp_eq]
  exact pk_lEQ hb (b := 0) (by decide)
theorem gcd_s (a b : Nat) : Nat.gcd b (a % b) = Nat.gcd a b := by
  rw [Nat.gcd_comm b (a % b), ← Nat.gcd_rec, Nat.gcd_comm]
theorem rgcd_eq : ∀ n a b : Nat, a < 2 ^ 63 → b < 2 ^ 63 → b < n → r_gcd n (lN a) (lN b) = lN (Nat.gcd a b)
  | 0, _, _, _, _, h => absurd h (Nat.not_lt_zero _)
  | n + 1, a, b, ha, hb, h => by
    rw [r_gcd_s]
    by_cases q : b = 0
    · rw [if_pos ((lN_0 hb).mpr q)]
      subst q
      rw [Nat.gcd_zero_right]
    · rw [if_neg (fun z => q ((lN_0 hb).mp z)), pk_lRem ha (by omega) hb]
      have hm : a % b < b := Nat.mod_lt _ (by omega)
      rw [rgcd_eq n b (a % b) hb (by omega) (by omega), gcd_s]
theorem fgcd_eq (ab be : Int64) (part : Int32) : ∀ n k a b : Nat, a < 2 ^ 63 → b < 2 ^ 63 → eT n a b → f_gcdGo ab be part n k (lN a) (lN b) = (if part = 0 then ab else be) / (if 1 < lN (Nat.gcd a b) then lN (Nat.gcd a b) else 1)
  | 0, k, a, b, ha, hb, h => by
    have h : b = 0 := h
    subst h
    rw [f_gcdGo_0, Nat.gcd_zero_right]
  | n + 1, k, a, b, ha, hb, h => by
    rw [f_gcdGo_s]
    by_cases q : b = 0
    · rw [if_pos ((lN_0 hb).mpr q)]
      subst q
      rw [Nat.gcd_zero_right]
    · rw [if_neg (fun z => q ((lN_0 hb).mp z)), pk_lRem ha (by omega) hb]
      have hm : a % b < b := Nat.mod_lt _ (by omega)
      have h : eT n b (a % b) := by
        rcases h with h | h
        · exact absurd h q
        · exact h
      rw [fgcd_eq ab be part n (k + 1) b (a % b) hb (by omega) h, gcd_s]
theorem abs_eq {ab : Int64} (h : -2 ^ 63 < ab.toInt) : ∃ a : Nat, a < 2 ^ 63 ∧ (if 0 < ab then ab else -ab) = lN a ∧ (if 0 ≤ lg_cmp ab 0 then ab else -ab) = lN a := by
  have hu := Int64.toInt_lt ab
  by_cases q : ab < 0
  · have q1 : ab.toInt < 0 := by simpa using Int64.lt_iff_toInt_lt.mp q
    have e1 : ¬ (0 : Int64) < ab := fun z => by
      have : 0 < ab.toInt := by simpa using Int64.lt_iff_toInt_lt.mp z
      omega
    have e2 : ¬ (0 : Int32) ≤ lg_cmp ab 0 := fun z => by
      have : (0 : Int64) ≤ ab := (lg_cmp_ge ab 0).mp z
      have : 0 ≤ ab.toInt := by simpa using Int64.le_iff_toInt_le.mp this
      omega
    have en : (-ab).toInt = -ab.toInt := by
      rw [Int64.toInt_neg]
      exact Int.bmod_eq_of_le (by omega) (by omega)
    have nn : ¬ (-ab) < 0 := fun z => by
      have : (-ab).toInt < 0 := by simpa using Int64.lt_iff_toInt_lt.mp z
      omega
    obtain ⟨a, ha, ea⟩ := pk_lOf nn
    exact ⟨a, ha, by rw [if_neg e1]; exact ea, by rw [if_neg e2]; exact ea⟩
  · obtain ⟨a, ha, ea⟩ := pk_lOf q
    have e2 : (0 : Int32) ≤ lg_cmp ab 0 := (lg_cmp_ge ab 0).mpr (by
      apply Int64.le_iff_toInt_le.mpr
      have : ¬ ab.toInt < 0 := fun z => q (Int64.lt_iff_toInt_lt.mpr (by simpa using z))
      simpa using this)
    refine ⟨a, ha, ?_, by rw [if_pos e2]; exact ea⟩
    by_cases p : (0 : Int64) < ab
    · rw [if_pos p]; exact ea
    · have z : ab = 0 := by
        apply Int64.toInt_inj.mp
        have h1 : ¬ ab.toInt < 0 := fun z => q (Int64.lt_iff_toInt_lt.mpr (by simpa using z))
        have h2 : ¬ 0 < ab.toInt := fun z => p (Int64.lt_iff_toInt_lt.mpr (by simpa using z))
        have : (0 : Int64).toInt = 0 := rfl
        omega
      rw [if_neg p, ← ea, z]
      rfl
theorem lowest_eq {ab : Int64} {b : Nat} (part : Int32) (h : -2 ^ 63 < ab.toInt) (h0 : 0 < b) (hb : b < 2 ^ 63) : f_lowest ab (lN b) part = r_lowest ab (lN b) part := by
  obtain ⟨a, ha, e1, e2⟩ := abs_eq h
  unfold f_lowest r_lowest r_divisor
  rw [e1, e2, fgcd_eq ab (lN b) part 100 0 a b ha hb (eT_100 hb), pk_lT hb]
  have eb : (b : Int).natAbs + 1 = b + 1 := by omega
  rw [eb, rgcd_eq (b + 1) a b ha hb (by omega)]
  have g1 : 0 < Nat.gcd a b := Nat.gcd_pos_of_pos_right a h0
  have g2 : Nat.gcd a b ≤ b := Nat.gcd_le_right a h0
  by_cases q : 1 < lN (Nat.gcd a b)
  · rw [if_pos q]
  · have : ¬ 1 < Nat.gcd a b := fun z => q ((pk_lLT (a := 1) (by decide) (by omega)).mpr z)
    rw [if_neg q, show Nat.gcd a b = 1 by omega]
    rfl
/-! chance, odds, likeliest -/
theorem part_eq (p : Int32) : f_isPart p = r_in p 0 1 := by
  rw [show r_in p 0 1 = _ from in7 p 1 (by decide)]
  unfold f_isPart
  by_cases q : p < 0
  · rw [if_pos q, if_neg (fun z => by subst z; exact absurd q (by decide)), if_neg (fun z => by subst z; exact absurd q (by decide))]
  · rw [if_neg q]
    obtain ⟨j, hj, rfl⟩ := nI_of q
    by_cases z : j < 2
    · rw [if_neg (show ¬ nI (1 + 1) ≤ nI j from nI_ge z (by decide))]
      match j, z with
      | 0, _ => rfl
      | 1, _ => rfl
    · rw [if_pos (show nI (1 + 1) ≤ nI j from nI_le (by omega) hj), if_neg (fun e => by have := (nI_eq (b := 0) hj (by decide)).mp e; omega), if_neg (fun e => by have := (nI_eq (b := 1) hj (by decide)).mp e; omega)]
theorem slip_n {wd : WT} {x : MT} (hJ : mJ (mS x)) (hR : Rl wd (mS x)) {l : Nat} (hl : l < wLc wd) : ∃ n : Nat, n ≤ 100 ∧ mS x (498 + nI l).toNatClampNeg = nI n := by
  have hl8 := hR.c3.2
  have h : ib 0 100 (mS x (498 + nI l).toNatClampNeg) := mI.at (lo := 498) (hi := 505) (x := 0) (y := 100) hJ.1 (ib_add (ib_nI (n := 498) (by decide)) (ib_lit (n := l) (a := 0) (b := 7) (by omega) (by omega) (by omega)) (by decide) (by decide)) (by decide) (by decide) (by decide)
  obtain ⟨n, e, h1, h2⟩ := h.nI_eq (by decide)
  exact ⟨n, by omega, e⟩
theorem chance_n {wd : WT} {x : MT} (hJ : mJ (mS x)) (hR : Rl wd (mS x)) {l : Nat} {t : Int32} (hl : l < wLc wd) : ∃ n : Nat, n ≤ 200 ∧ r_chanceOf x (nI l) t = lN n := by
  obtain ⟨n, hn, e⟩ := slip_n hJ hR hl
  unfold r_chanceOf
  rw [e]
  split
  · refine ⟨200 - 2 * n, by omega, ?_⟩
    rw [show (200 : Int32) = nI 200 from rfl, show (2 : Int32) = nI 2 from rfl, pk_mul, nI_sub (by omega), nI_l (by omega)]
  · exact ⟨n, by omega, nI_l (by omega)⟩
theorem eq_chance {wd : WT} {x : MT} (hJ : mJ (mS x)) (hR : Rl wd (mS x)) (l t p : Int32) : s_chance wd l t p = r_chance x l t p := by
  unfold s_chance r_chance
  rw [isLaw_eq hR, isAnswer_eq hR, part_eq]
  by_cases q1 : w_hasLaw wd l = true
  · rw [if_pos q1, if_pos q1]
    by_cases q2 : f_has (wAn wd) t = true
    · rw [if_pos q2, if_pos q2]
      by_cases q3 : r_in p 0 1 = true
      · rw [if_pos q3, if_pos q3]
        obtain ⟨l, rfl, hl⟩ := law_ex q1 hR.c3.2
        obtain ⟨t, rfl, ht⟩ := has_ex q2 (by have := hR.c2.2; omega)
        rw [chance_eq hJ hR hl ht]
        obtain ⟨n, hn, e⟩ := chance_n (t := nI t) hJ hR hl
        rw [e]
        refine lowest_eq (b := 200) p ?_ (by decide) (by decide)
        rw [pk_lT (by omega)]
        omega
      · rw [if_neg q3, if_neg q3]
    · rw [if_neg q2, if_neg q2]
  · rw [if_neg q1, if_neg q1]
theorem pow_it : ∀ k : Nat, s_oddIt 1 k = lN (200 ^ k)
  | 0 => rfl
  | k + 1 => by
    show s_oddIt 1 k * 200 = lN (200 ^ (k + 1))
    rw [pow_it k, show (200 : Int64) = lN 200 from rfl, lN_mul, Nat.pow_succ]
theorem rpow_it : ∀ k v : Nat, r_pow k (lN v) = lN (v * 200 ^ k)
  | 0, v => by rw [Nat.pow_zero, Nat.mul_one]; rfl
  | k + 1, v => by
    show r_pow k (lN v * 200) = _
    rw [show (200 : Int64) = lN 200 from rfl, lN_mul, rpow_it k (v * 200), Nat.pow_succ, Nat.mul_assoc, Nat.mul_comm 200]
/-- a set of answers, either way -/
theorem mask_n : ∀ n, n ≤ 40 → ((1 : Int32) <<< ((if 30 < nI n then 30 else nI n) &&& 31)) - 1 = nI (2 ^ (if 30 < n then 30 else n) - 1) ∧ ((1 : Int32) <<< ((if nI n ≤ 30 then nI n else 30) &&& 31)) - 1 = nI (2 ^ (if 30 < n then 30 else n) - 1) := by decide +kernel
theorem out_mask (x k : Int32) : x &&& (k ^^^ (-1)) = x ^^^ (x &&& k) := by
  apply Int32.toBitVec_inj.mp
  apply BitVec.eq_of_getLsbD_eq
  intro i hi
  have h1 : ((-1 : Int32).toBitVec).getLsbD i = true := by
    have : ∀ i, i < 32 → ((-1 : Int32).toBitVec).getLsbD i = true := by decide
    exact this i hi
  rw [Int32.toBitVec_and, Int32.toBitVec_xor, Int32.toBitVec_xor, Int32.toBitVec_and, BitVec.getLsbD_and, BitVec.getLsbD_xor, BitVec.getLsbD_xor, BitVec.getLsbD_and, h1]
  cases x.toBitVec.getLsbD i <;> cases k.toBitVec.getLsbD i <;> rfl
theorem xor_0 {a b : Int32} : a ^^^ b = 0 ↔ a = b := by
  constructor
  · intro h
    have : a ^^^ b ^^^ b = 0 ^^^ b := by rw [h]
    rw [Int32.xor_assoc, Int32.xor_self, Int32.xor_zero, Int32.zero_xor] at this
    exact this
  · intro h; rw [h]; exact Int32.xor_self
theorem mask_eq (x : Int32) {m : Nat} (hm : m ≤ 30) : x &&& (nI (2 ^ m - 1) ^^^ (-1)) = 0 ↔ r_in x 0 (nI (2 ^ m - 1)) = true := by
  have hp : 2 ^ m ≤ 2 ^ 30 := Nat.pow_le_pow_right (by decide) hm
  have h1 : 1 ≤ 2 ^ m := Nat.one_le_two_pow
  have ek : ((nI (2 ^ m - 1)) : Int32).toBitVec.toNat = 2 ^ m - 1 := pk_tn (by omega)
  rw [out_mask, xor_0, pk_and x m ek]
  constructor
  · intro h
    have hj : x.toBitVec.toNat % 2 ^ m < 2 ^ m := Nat.mod_lt _ (by omega)
    generalize x.toBitVec.toNat % 2 ^ m = j at h hj
    subst h
    unfold r_in
    rw [if_neg (nI_pos (by omega)), if_neg (nI_nlt (by omega) (by omega))]
  · intro h
    unfold r_in at h
    by_cases q : x < 0
    · rw [if_pos q] at h; cases h
    · rw [if_neg q] at h
      obtain ⟨j, hj, rfl⟩ := nI_of q
      by_cases z : nI (2 ^ m - 1) < nI j
      · rw [if_pos z] at h; cases h
      · have : j < 2 ^ m := by
          rcases Nat.lt_or_ge j (2 ^ m) with w | w
          · exact w
          · exact absurd (nI_lt (by omega) hj) z
        rw [pk_tn (by omega), Nat.mod_eq_of_lt this]
/-- a set that is one: its number, its bits -/
theorem set_ex {wd : WT} {x : MT} (hR : Rl wd (mS x)) (set : Int32) : w_isSet wd set = r_isFew x set ∧ (r_isFew x set = true → ∃ n : Nat, set = nI n ∧ n < 2 ^ 30 ∧ cnt n 30 ≤ 8 ∧ n < 2 ^ (wAn wd).1) := by
  have h40 := hR.c2.2
  obtain ⟨m1, m2⟩ := mask_n (wAn wd).1 h40
  generalize em : (if 30 < (wAn wd).1 then 30 else (wAn wd).1) = m at m1 m2
  have hm : m ≤ 30 ∧ m ≤ (wAn wd).1 := by
    subst em
    split <;> omega
  have hp : 2 ^ m ≤ 2 ^ 30 := Nat.pow_le_pow_right (by decide) hm.1
  have hp2 : 2 ^ m ≤ 2 ^ (wAn wd).1 := Nat.pow_le_pow_right (by decide) hm.2
  unfold w_isSet r_isFew
  rw [show mS x (2 : Int32).toNatClampNeg = nI (wAn wd).1 from hR.c2.1, m1, m2]
  have key := mask_eq set hm.1
  by_cases q : r_in set 0 (nI (2 ^ m - 1)) = true
  · rw [if_pos (key.mpr q), if_pos q]
    have : ∃ n : Nat, set = nI n ∧ n < 2 ^ m := by
      unfold r_in at q
      by_cases p : set < 0
      · rw [if_pos p] at q; cases q
      · rw [if_neg p] at q
        obtain ⟨j, hj, rfl⟩ := nI_of p
        refine ⟨j, rfl, ?_⟩
        have h1 : 1 ≤ 2 ^ m := Nat.one_le_two_pow
        rcases Nat.lt_or_ge j (2 ^ m) with w | w
        · exact w
        · rw [if_pos (nI_lt (by omega) hj)] at q; cases q
    obtain ⟨n, rfl, hn⟩ := this
    obtain ⟨c1, c2⟩ := count1_eq (n := n) (by omega)
    rw [c1, c2]
    refine ⟨rfl, fun h => ⟨n, rfl, by omega, ?_, by omega⟩⟩
    have hc := cnt_le n 30
    by_cases p : (8 : Int32) < nI (cnt n 30)
    · rw [if_pos p] at h; cases h
    · rcases Nat.lt_or_ge 8 (cnt n 30) with w | w
      · exact absurd (nI_lt (a := 8) w (by omega)) p
      · exact w
  · rw [if_neg (fun z => q (key.mp z)), if_neg q]
    exact ⟨rfl, fun h => absurd h (by decide)⟩
theorem set_bit {n N k : Nat} (h : n < 2 ^ 30) (hN : n < 2 ^ N) (hk : k < 30) (hb : (nI n >>> (nI k &&& 31)) &&& 1 = 1) : k < N := by
  rw [bit_at (by omega) (by omega)] at hb
  rcases Nat.lt_or_ge k N with w | w
  · exact w
  · have : 2 ^ N ≤ 2 ^ k := Nat.pow_le_pow_right (by decide) w
    rw [Nat.div_eq_of_lt (by omega)] at hb
    exact absurd hb (by decide)
theorem eq_likeliest {wd : WT} {x : MT} (hJ : mJ (mS x)) (hR : Rl wd (mS x)) (set : Int32) : s_likeliest wd set = r_likeliest x set := by
  obtain ⟨e, hx⟩ := set_ex hR set
  unfold s_likeliest r_likeliest
  rw [e]
  by_cases q : r_isFew x set = true
  · rw [if_pos q, if_pos q, hR.n3]
    obtain ⟨n, rfl, h1, h2, h3⟩ := hx q
    exact (like_go hJ hR (fun k hk hb => set_bit h1 h3 hk hb) (wLc wd) 0 (by omega)).symm
  · rw [if_neg q, if_neg q]
theorem odds_n {wd : WT} {x : MT} (hJ : mJ (mS x)) (hR : Rl wd (mS x)) {l n : Nat} (hl : l < wLc wd) (hn : n < 2 ^ 30) (h3 : n < 2 ^ (wAn wd).1) : ∀ k, k ≤ 30 → ∃ p : Nat, p ≤ 200 ^ cnt n k ∧ w_oddsIt wd (nI l) (nI n) 1 k = lN p
  | 0, _ => ⟨1, Nat.le_refl 1, rfl⟩
  | k + 1, hk => by
    obtain ⟨p, hp, e⟩ := odds_n hJ hR hl hn h3 k (by omega)
    show ∃ p : Nat, p ≤ 200 ^ (cnt n k + n / 2 ^ k % 2) ∧ w_oddsIt_st wd (nI l) (nI n) k (w_oddsIt wd (nI l) (nI n) 1 k) = lN p
    unfold w_oddsIt_st
    rw [e]
    by_cases q : (nI n >>> (nI k &&& 31)) &&& 1 = 1
    · rw [if_pos q, chance_eq hJ hR hl (set_bit hn h3 (by omega) q)]
      obtain ⟨c, hc, ec⟩ := chance_n (t := nI k) hJ hR hl
      rw [ec, lN_mul]
      refine ⟨p * c, ?_, rfl⟩
      have hb : n / 2 ^ k % 2 = 1 := by
        rw [bit_at (by omega) (by omega)] at q
        rcases Nat.mod_two_eq_zero_or_one (n / 2 ^ k) with z | z
        · rw [z] at q; exact absurd q (by decide)
        · exact z
      rw [hb, Nat.pow_succ]
      exact Nat.mul_le_mul hp hc
    · rw [if_neg q]
      have hb : n / 2 ^ k % 2 = 0 := by
        rw [bit_at (by omega) (by omega)] at q
        rcases Nat.mod_two_eq_zero_or_one (n / 2 ^ k) with z | z
        · exact z
        · rw [z] at q; exact absurd rfl q
      exact ⟨p, by rw [hb]; exact hp, rfl⟩
theorem eq_odds {wd : WT} {x : MT} (hJ : mJ (mS x)) (hR : Rl wd (mS x)) (l set p : Int32) : s_odds wd l set p = r_odds x l set p := by
  obtain ⟨e, hx⟩ := set_ex hR set
  unfold s_odds r_odds
  rw [isLaw_eq hR, e, part_eq]
  by_cases q1 : w_hasLaw wd l = true
  · rw [if_pos q1, if_pos q1]
    by_cases q2 : r_isFew x set = true
    · rw [if_pos q2, if_pos q2]
      by_cases q3 : r_in p 0 1 = true
      · rw [if_pos q3, if_pos q3]
        obtain ⟨l, rfl, hl⟩ := law_ex q1 hR.c3.2
        obtain ⟨n, rfl, h1, h2, h3⟩ := hx q2
        obtain ⟨c1, c2⟩ := count1_eq h1
        obtain ⟨v, hv, ev⟩ := odds_n hJ hR hl h1 h3 30 (Nat.le_refl _)
        rw [← oddsOf_eq hJ hR hl (fun k hk hb => set_bit h1 h3 hk hb), c1, c2, nI_clamp (by omega), pow_it, show (1 : Int64) = lN 1 from rfl, rpow_it, Nat.one_mul]
        have hw : 200 ^ cnt n 30 ≤ 200 ^ 8 := Nat.pow_le_pow_right (by decide) h2
        have hw0 : 0 < 200 ^ cnt n 30 := Nat.pow_pos (by decide)
        have hw1 : 200 ^ 8 < 2 ^ 63 := by decide
        refine lowest_eq p ?_ hw0 (by omega)
        unfold w_oddsAbove
        rw [ev, pk_lT (by omega)]
        omega
      · rw [if_neg q3, if_neg q3]
    · rw [if_neg q2, if_neg q2]
  · rw [if_neg q1, if_neg q1]

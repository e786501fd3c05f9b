/-! what a law's steps say: bits of the class, a list of the reference -/
theorem nI_div {a b : Nat} (ha : a < 2 ^ 31) (hb : b < 2 ^ 31) : nI a / nI b = nI (a / b) := by
  apply Int32.toInt_inj.mp
  have hq : a / b ≤ a := Nat.div_le_self a b
  rw [Int32.toInt_div, nI_toInt ha, nI_toInt hb, nI_toInt (by omega)]
  show (((a / b : Nat) : Int)).bmod (2 ^ 32) = ((a / b : Nat) : Int)
  generalize a / b = q at hq ⊢
  exact Int.bmod_eq_of_le (by omega) (by omega)
theorem nI_sub {a b : Nat} (h : b ≤ a) : nI a - nI b = nI (a - b) := by
  have e := nI_add (a - b) b
  rw [Nat.sub_add_cancel h] at e
  rw [← e]
  exact Int32.add_sub_cancel _ _
theorem nI_mod {a b : Nat} (ha : a < 2 ^ 31) (hb : b < 2 ^ 31) : nI a - nI a / nI b * nI b = nI (a % b) := by
  have h : a / b * b ≤ a := Nat.div_mul_le_self a b
  rw [nI_div ha hb, pk_mul, nI_sub h]
  congr 1
  have := Nat.div_add_mod a b
  rw [Nat.mul_comm] at this
  omega
theorem cstep {w h v : Nat} (hw : w < 7) (hh : h < 3) (hv : v ≤ 999) : (w * 3000 + h * 1000 + v) / 3000 = w ∧ (w * 3000 + h * 1000 + v) / 1000 % 3 = h ∧ (w * 3000 + h * 1000 + v) % 1000 = v := by omega
theorem mstep {w h v : Nat} (hw : w < 7) (hh : h < 3) (hv : v ≤ 999) : (w + 8 * h + 32 * v) % 8 = w ∧ (w + 8 * h + 32 * v) / 8 % 4 = h ∧ (w + 8 * h + 32 * v) / 32 = v := by omega
theorem val_eq {wd : WT} {x : MT} (hR : Rl wd (mS x)) {a : Nat} (ha : a < (wAs wd).1) {w : Nat} (hw : w < 7) (gg : Int32) : lx_valueOf 7 (wAs wd) (nI w) (nI a) gg = r_letter x (nI w) (nI a) gg := by
  have h1 := hR.c1.2
  have e : ∀ j : Nat, j < 7 → f_at 7 (wAs wd) (nI a) (nI j) = mS x (170 + 16 * j + a) := fun j hj => hR.asg ha hj
  have c : ∀ b : Nat, b ≤ 1000 → (nI b + nI a).toNatClampNeg = b + a := fun b hb => cl2 (by omega)
  unfold lx_valueOf r_letter
  match w, hw with
  | 0, _ => rfl
  | 1, _ => exact (e 0 (by decide)).trans (congrArg (mS x) (c 170 (by decide)).symm)
  | 2, _ => exact (e 1 (by decide)).trans (congrArg (mS x) (c 186 (by decide)).symm)
  | 3, _ => exact (e 2 (by decide)).trans (congrArg (mS x) (c 202 (by decide)).symm)
  | 4, _ => exact (e 3 (by decide)).trans (congrArg (mS x) (c 218 (by decide)).symm)
  | 5, _ => exact (e 4 (by decide)).trans (congrArg (mS x) (c 234 (by decide)).symm)
  | 6, _ =>
    show b2i (if f_at 7 (wAs wd) (nI a) (nI 6) = 0 then false else true) = b2i (if mS x (nI 266 + nI a).toNatClampNeg = 0 then false else true)
    rw [e 6 (by decide), c 266 (by decide)]
theorem test_eq {wd : WT} {x : MT} (hR : Rl wd (mS x)) {a : Nat} (ha : a < (wAs wd).1) {w h v : Nat} (hw : w < 7) (hh : h < 3) (hv : v ≤ 999) (gg : Int32) : lx_holds (nI (w * 3000 + h * 1000 + v)) (lx_valueOf 7 (wAs wd) (nI (w * 3000 + h * 1000 + v) / 3000) (nI a) gg) = tst x (nI a) gg (nI (w + 8 * h + 32 * v)) := by
  obtain ⟨c1, c2, c3⟩ := cstep hw hh hv
  obtain ⟨m1, m2, m3⟩ := mstep hw hh hv
  have hA : w * 3000 + h * 1000 + v < 2 ^ 31 := by omega
  have hB : w + 8 * h + 32 * v < 2 ^ 31 := by omega
  have e1 : nI (w * 3000 + h * 1000 + v) / 3000 = nI w := (nI_div (b := 3000) hA (by decide)).trans (by rw [c1])
  have e2 : nI (w * 3000 + h * 1000 + v) / 1000 = nI ((w * 3000 + h * 1000 + v) / 1000) := nI_div (b := 1000) hA (by decide)
  have e3 : nI (w * 3000 + h * 1000 + v) - nI (w * 3000 + h * 1000 + v) / 1000 * 1000 = nI v := (nI_mod (b := 1000) hA (by decide)).trans (by rw [c3])
  have e4 : nI ((w * 3000 + h * 1000 + v) / 1000) - nI ((w * 3000 + h * 1000 + v) / 1000) / 3 * 3 = nI h := (nI_mod (b := 3) (by omega) (by decide)).trans (by rw [c2])
  have g1 : nI (w + 8 * h + 32 * v) / 32 = nI v := (nI_div (b := 32) hB (by decide)).trans (by rw [m3])
  have g2 : nI (w + 8 * h + 32 * v) / 8 = nI ((w + 8 * h + 32 * v) / 8) := nI_div (b := 8) hB (by decide)
  have g3 : nI (w + 8 * h + 32 * v) - nI (w + 8 * h + 32 * v) / 8 * 8 = nI w := (nI_mod (b := 8) hB (by decide)).trans (by rw [m1])
  have g4 : nI ((w + 8 * h + 32 * v) / 8) - nI ((w + 8 * h + 32 * v) / 8) / 4 * 4 = nI h := (nI_mod (b := 4) (by omega) (by decide)).trans (by rw [m2])
  unfold lx_holds tst
  rw [e3, e1, e2, e4, g3, g2, g4, g1, val_eq hR ha hw gg]
def bL : List Bool → Nat
  | [] => 0
  | b :: L => 2 * bL L + b.toNat
theorem bL_lt : ∀ L : List Bool, bL L < 2 ^ L.length
  | [] => by decide
  | b :: L => by
    have h := bL_lt L
    have hb : b.toNat ≤ 1 := by cases b <;> decide
    show 2 * bL L + b.toNat < 2 ^ (L.length + 1)
    rw [Nat.pow_succ]
    omega
theorem bit_push : ∀ a, a < 64 → ∀ b, b < 64 → ∀ c : Bool, ((lN (64 * a + b) <<< ((1 : Int32).toInt64 &&& 63)) ||| (b2i c).toInt64) = lN (2 * (64 * a + b) + c.toNat) := by decide +kernel
theorem bit_not : ∀ a, a < 64 → ∀ b, b < 64 → ∀ c : Bool, lN (2 * (64 * a + b) + c.toNat) ^^^ 1 = lN (2 * (64 * a + b) + (!c).toNat) := by decide +kernel
theorem bit_and : ∀ a, a < 32 → ∀ b, b < 64 → ∀ c d : Bool, ((lN (2 * (2 * (64 * a + b) + c.toNat) + d.toNat) >>> ((1 : Int32).toInt64 &&& 63)) &&& ((lN (2 * (2 * (64 * a + b) + c.toNat) + d.toNat) &&& 1) ||| (-2))) = lN (2 * (64 * a + b) + (c && d).toNat) := by decide +kernel
theorem bit_or : ∀ a, a < 32 → ∀ b, b < 64 → ∀ c d : Bool, ((lN (2 * (2 * (64 * a + b) + c.toNat) + d.toNat) >>> ((1 : Int32).toInt64 &&& 63)) ||| (lN (2 * (2 * (64 * a + b) + c.toNat) + d.toNat) &&& 1)) = lN (2 * (64 * a + b) + (c || d).toNat) := by decide +kernel
theorem push_eq {L : List Bool} (h : L.length ≤ 12) (c : Bool) : ((lN (bL L) <<< ((1 : Int32).toInt64 &&& 63)) ||| (b2i c).toInt64) = lN (bL (c :: L)) := by
  have h1 := bL_lt L
  have h2 : 2 ^ L.length ≤ 2 ^ 12 := Nat.pow_le_pow_right (by decide) h
  have h3 := bit_push (bL L / 64) (by omega) (bL L % 64) (Nat.mod_lt _ (by decide)) c
  rw [Nat.div_add_mod] at h3
  exact h3
theorem not_eq {L : List Bool} (h : L.length ≤ 12) (c : Bool) : lN (bL (c :: L)) ^^^ 1 = lN (bL ((!c) :: L)) := by
  have h1 := bL_lt L
  have h2 : 2 ^ L.length ≤ 2 ^ 12 := Nat.pow_le_pow_right (by decide) h
  have h3 := bit_not (bL L / 64) (by omega) (bL L % 64) (Nat.mod_lt _ (by decide)) c
  rw [Nat.div_add_mod] at h3
  exact h3
theorem and_eq {L : List Bool} (h : L.length ≤ 11) (c d : Bool) : ((lN (bL (d :: c :: L)) >>> ((1 : Int32).toInt64 &&& 63)) &&& ((lN (bL (d :: c :: L)) &&& 1) ||| (-2))) = lN (bL ((c && d) :: L)) := by
  have h1 := bL_lt L
  have h2 : 2 ^ L.length ≤ 2 ^ 11 := Nat.pow_le_pow_right (by decide) h
  have h3 := bit_and (bL L / 64) (by omega) (bL L % 64) (Nat.mod_lt _ (by decide)) c d
  rw [Nat.div_add_mod] at h3
  exact h3
theorem or_eq {L : List Bool} (h : L.length ≤ 11) (c d : Bool) : ((lN (bL (d :: c :: L)) >>> ((1 : Int32).toInt64 &&& 63)) ||| (lN (bL (d :: c :: L)) &&& 1)) = lN (bL ((c || d) :: L)) := by
  have h1 := bL_lt L
  have h2 : 2 ^ L.length ≤ 2 ^ 11 := Nat.pow_le_pow_right (by decide) h
  have h3 := bit_or (bL L / 64) (by omega) (bL L % 64) (Nat.mod_lt _ (by decide)) c d
  rw [Nat.div_add_mod] at h3
  exact h3
theorem sayd_neg {n : Nat} (h : n < 3) : -10 - nI n < 0 ∧ ¬ -10 - nI n = -3 ∧ ¬ -10 - nI n = -1 ∧ ¬ -10 - nI n = -2 ∧ -10 - nI n ≤ -10 := by
  match n, h with
  | 0, _ => decide
  | 1, _ => decide
  | 2, _ => decide
theorem saidGo {wd : WT} {x : MT} (hR : Rl wd (mS x)) {l : Nat} (hl : l < wLc wd) {a : Nat} (ha : a < (wAs wd).1) (gg : Int32) : ∀ (n k : Nat) (L : List Bool), k + n = lSc (wLw wd l) → L.length ≤ 13 → wfGo (mS x) n (794 + 140 * l + k) L.length → lx_sayGo (wLw wd l) (wAs wd) (nI a) gg n k (lN (bL L)) = sayL x (nI a) gg n (794 + 140 * l + k) L
  | 0, k, L, _, _, _ => rfl
  | n + 1, k, L, hn, h13, hw => by
    have ih := saidGo hR hl ha gg n (k + 1)
    have hl8 := hR.c3.2
    obtain ⟨-, -, -, -, -, -, -, ⟨-, hc⟩, hs⟩ := hR.lw hl
    have he := hs k (by omega)
    have ek : (nI k).toNatClampNeg = k := nI_clamp (by omega)
    have em : (nI (794 + 140 * l + k)).toNatClampNeg = 794 + 140 * l + k := nI_clamp (by omega)
    rw [lx_sayGo_s, if_neg (show ¬ (120 : Int32) ≤ nI k from nI_ge (b := 120) (by omega) (by decide)), ek]
    unfold sayL
    unfold wfGo at hw
    rw [em] at hw ⊢
    rcases he with ⟨w, h, v, p1, p2, p3, e1, e2⟩ | ⟨e1, e2⟩ | ⟨e1, e2⟩ | ⟨e1, e2⟩ | ⟨m, hm, e1, e2⟩
    · rw [e2, if_neg (nI_pos (by omega))] at hw
      rw [e1, e2, if_neg (nI_pos (by omega)), if_neg (nI_pos (by omega)), test_eq hR ha p1 p2 p3 gg]
      have eb : ∀ b : Bool, b2i (if b = true then true else false) = b2i b := fun b => by cases b <;> rfl
      rw [eb, push_eq hw.1]
      exact ih (tst x (nI a) gg (nI (w + 8 * h + 32 * v)) :: L) (by omega) (show L.length + 1 ≤ 13 by have := hw.1; omega) hw.2
    · rw [e2] at hw
      rw [e1, e2]
      have hw : 2 ≤ L.length ∧ wfGo (mS x) n (794 + 140 * l + k + 1) (L.length - 1) := hw
      match L, hw, h13 with
      | [], hw, _ => exact absurd hw.1 (by simp)
      | [_], hw, _ => exact absurd hw.1 (by simp)
      | d :: c :: L, hw, h13 =>
        have h11 : L.length ≤ 11 := by have : L.length + 2 ≤ 13 := h13; omega
        show lx_sayGo _ _ _ _ n (k + 1) _ = sayL x (nI a) gg n (794 + 140 * l + k + 1) ((c && d) :: L)
        rw [and_eq h11]
        exact ih ((c && d) :: L) (by omega) (show L.length + 1 ≤ 13 by omega) hw.2
    · rw [e2] at hw
      rw [e1, e2]
      have hw : 2 ≤ L.length ∧ wfGo (mS x) n (794 + 140 * l + k + 1) (L.length - 1) := hw
      match L, hw, h13 with
      | [], hw, _ => exact absurd hw.1 (by simp)
      | [_], hw, _ => exact absurd hw.1 (by simp)
      | d :: c :: L, hw, h13 =>
        have h11 : L.length ≤ 11 := by have : L.length + 2 ≤ 13 := h13; omega
        show lx_sayGo _ _ _ _ n (k + 1) _ = sayL x (nI a) gg n (794 + 140 * l + k + 1) ((c || d) :: L)
        rw [or_eq h11]
        exact ih ((c || d) :: L) (by omega) (show L.length + 1 ≤ 13 by omega) hw.2
    · rw [e2] at hw
      rw [e1, e2]
      have hw : 1 ≤ L.length ∧ wfGo (mS x) n (794 + 140 * l + k + 1) L.length := hw
      match L, hw, h13 with
      | [], hw, _ => exact absurd hw.1 (by simp)
      | c :: L, hw, h13 =>
        have h12 : L.length ≤ 12 := by have : L.length + 1 ≤ 13 := h13; omega
        show lx_sayGo _ _ _ _ n (k + 1) _ = sayL x (nI a) gg n (794 + 140 * l + k + 1) ((!c) :: L)
        rw [not_eq h12]
        exact ih ((!c) :: L) (by omega) (show L.length + 1 ≤ 13 by omega) hw.2
    · obtain ⟨z1, z2, z3, z4, z5⟩ := sayd_neg hm
      rw [e2, if_pos z1, if_neg z3, if_pos z5] at hw
      rw [e1, e2, if_pos z1, if_neg z2, if_neg z3, if_neg z4, if_pos z1, if_neg z3, if_pos z5]
      match L, hw with
      | [b], hw =>
        cases b with
        | true => rfl
        | false => exact ih [] (by omega) (by decide) hw.2
theorem said_eq {wd : WT} {x : MT} (hR : Rl wd (mS x)) {l : Nat} (hl : l < wLc wd) {a : Nat} (ha : a < (wAs wd).1) (gg : Int32) (hW : wfL (mS x) l) : lx_firstSaid (wLw wd l) (wAs wd) (nI a) gg = sayV x (nI l) (nI a) gg := by
  have hl8 := hR.c3.2
  obtain ⟨-, -, -, -, -, -, -, ⟨e1, hc⟩, -⟩ := hR.lw hl
  have e2 : (nI l).toNatClampNeg = l := nI_clamp (by omega)
  have e3 : (mS x (786 + nI l).toNatClampNeg).toNatClampNeg = lSc (wLw wd l) := by
    rw [show (786 : Int32) = nI 786 from rfl, cl2 (by omega), e1, nI_clamp (by omega)]
  unfold wfL at hW
  rw [e3] at hW
  unfold lx_firstSaid sayV
  rw [e3, e2]
  exact saidGo hR hl ha gg (lSc (wLw wd l)) 0 [] (by omega) (by decide) hW

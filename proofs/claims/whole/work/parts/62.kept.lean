/-! what a law keeps: bits of the class, a STUFF at a time of the reference -/
def kv (a b c d : Bool) : Int32 := nI (a.toNat + 2 * b.toNat + 4 * c.toNat + 8 * d.toNat)
theorem kv_or : ∀ a b c d : Bool, ∀ j : Nat, j < 4 → kv a b c d ||| ((1 : Int32) <<< (nI j &&& 31)) = kv (a || j == 0) (b || j == 1) (c || j == 2) (d || j == 3) := by decide
theorem kv_if (a b c d e : Bool) {j : Nat} (hj : j < 4) : (if e = true then kv a b c d ||| ((1 : Int32) <<< (nI j &&& 31)) else kv a b c d) = kv (a || (e && j == 0)) (b || (e && j == 1)) (c || (e && j == 2)) (d || (e && j == 3)) := by
  cases e with
  | true => rw [if_pos rfl, kv_or _ _ _ _ j hj]; simp
  | false => rw [if_neg (by decide)]; simp
theorem i32le {a b : Int32} : a ≤ b ↔ a.toInt ≤ b.toInt := Int32.le_iff_toInt_le
theorem i32lt {a b : Int32} : a < b ↔ a.toInt < b.toInt := Int32.lt_iff_toInt_lt
theorem t100 : (100000 : Int32).toInt = 100000 := by decide
/-- whether by the age, or by what was taught -/
def kI (x : MT) (l c k : Nat) (gg : Int32) : Bool := if mS x (506 + 4 * l + k) ≤ gg then true else if mS x (138 + 4 * c + k) = -1 then false else if gg < mS x (138 + 4 * c + k) then false else true
theorem taught_at {wd : WT} {x : MT} (hR : Rl wd (mS x)) {c k : Nat} (hc : c < (wCh wd).1) (hk : k < 4) : f_at 5 (wCh wd) (nI c) (1 + nI k) = (wCh wd).2 (5 * c + 1 + k) := by
  have h0 := hR.c0.2
  rw [show (1 : Int32) = nI 1 from rfl, nI_add, at_eq (by omega) hc (by decide) (by omega), ← Nat.add_assoc]
theorem kept1_st {wd : WT} {x : MT} (hR : Rl wd (mS x)) {l c k : Nat} (hl : l < wLc wd) (hc : c < (wCh wd).1) (hk : k < 4) {gg : Int32} (hg : ib 0 219 gg) (kp : Int32) : w_kept1_st wd l (nI c) gg k kp = if kI x l c k gg = true then kp ||| ((1 : Int32) <<< (nI k &&& 31)) else kp := by
  unfold w_kept1_st kI
  obtain ⟨-, -, -, -, hF, -⟩ := hR.lw hl
  rw [nI_clamp (by omega), hF k hk, taught_at hR hc hk]
  by_cases q : mS x (506 + 4 * l + k) ≤ gg
  · rw [if_pos q, if_pos q, if_pos rfl]
  · rw [if_neg q, if_neg q]
    rcases (hR.ch hc).2 k hk with ⟨e1, e2⟩ | ⟨e1, e2⟩
    · rw [e1, e2, if_pos (i32lt.mpr (by rw [t100]; have := hg.2; omega)), if_pos rfl, if_neg (by decide)]
    · have hn : ¬ mS x (138 + 4 * c + k) = -1 := fun e => by
        have := e2.1
        rw [e] at this
        exact absurd this (by decide)
      rw [e1, if_neg hn]
      by_cases z : gg < mS x (138 + 4 * c + k)
      · rw [if_pos z, if_pos z, if_neg (by decide)]
      · rw [if_neg z, if_neg z, if_pos rfl]
theorem kept1_eq {wd : WT} {x : MT} (hR : Rl wd (mS x)) {l c : Nat} (hl : l < wLc wd) (hc : c < (wCh wd).1) {gg : Int32} (hg : ib 0 219 gg) : w_kept1 wd l (nI c) gg 0 4 = kv (kI x l c 0 gg) (kI x l c 1 gg) (kI x l c 2 gg) (kI x l c 3 gg) := by
  have e : w_kept1 wd l (nI c) gg 0 4 = w_kept1_st wd l (nI c) gg 3 (w_kept1_st wd l (nI c) gg 2 (w_kept1_st wd l (nI c) gg 1 (w_kept1_st wd l (nI c) gg 0 0))) := rfl
  rw [e, kept1_st hR hl hc (by decide) hg, kept1_st hR hl hc (by decide) hg, kept1_st hR hl hc (by decide) hg, kept1_st hR hl hc (by decide) hg]
  generalize kI x l c 0 gg = a
  generalize kI x l c 1 gg = b
  generalize kI x l c 2 gg = d
  generalize kI x l c 3 gg = f
  revert a b d f
  decide
theorem kept_init {x : MT} {l c k : Nat} (hl : l < 8) (hc : c < 8) (hk : k < 4) (gg : Int32) : (if ((mS x) ((506 + (4 * nI l)) + nI k).toNatClampNeg) ≤ gg then true else if ((mS x) ((138 + (4 * nI c)) + nI k).toNatClampNeg) = (-1) then false else if gg < ((mS x) ((138 + (4 * nI c)) + nI k).toNatClampNeg) then false else true) = kI x l c k gg := by
  have e1 : ((506 : Int32) + 4 * nI l + nI k).toNatClampNeg = 506 + 4 * l + k := by
    rw [show (506 : Int32) = nI 506 from rfl, show (4 : Int32) = nI 4 from rfl, pk_mul, nI_add, nI_add, nI_clamp (by omega)]
  have e2 : ((138 : Int32) + 4 * nI c + nI k).toNatClampNeg = 138 + 4 * c + k := by
    rw [show (138 : Int32) = nI 138 from rfl, show (4 : Int32) = nI 4 from rfl, pk_mul, nI_add, nI_add, nI_clamp (by omega)]
  unfold kI
  rw [e1, e2]
/-- one over: whether it has gone over to a STUFF -/
def kO (x : MT) (l c i : Nat) (gg : Int32) : Bool := if mS x (138 + 4 * c + (mS x (546 + 3 * (10 * l + i))).toNatClampNeg) = -1 then false else if gg - mS x (138 + 4 * c + (mS x (546 + 3 * (10 * l + i))).toNatClampNeg) < mS x (546 + 3 * (10 * l + i) + 2) then false else true
theorem keptIt_st {x : MT} (hI : mI (mS x)) (hO : mO (mS x)) {l c i k : Nat} (hl : l < 8) (hc : c < 8) (hi : i < 10) (hk : k < 4) (gg : Int32) (kp : Bool) : r_keptIt_st x (nI l) (nI c) (nI k) gg i kp = (kp || (kO x l c i gg && (mS x (546 + 3 * (10 * l + i) + 1)).toNatClampNeg == k)) := by
  obtain ⟨a0, a1, a2⟩ := over_at2 (an := l) (c := i) hl (by omega)
  obtain ⟨hf, ht⟩ := hO (10 * l + i) (by omega)
  obtain ⟨f, ef, f1, f2⟩ := hf.nI_eq (by decide)
  obtain ⟨t, et, t1, t2⟩ := ht.nI_eq (by decide)
  have e2 : ((138 : Int32) + 4 * nI c + nI f).toNatClampNeg = 138 + 4 * c + f := by
    rw [show (138 : Int32) = nI 138 from rfl, show (4 : Int32) = nI 4 from rfl, pk_mul, nI_add, nI_add, nI_clamp (by omega)]
  unfold r_keptIt_st kO
  rw [a0, a1, a2, ef, et, e2, nI_clamp (by omega), nI_clamp (by omega)]
  cases kp with
  | true => simp
  | false =>
    by_cases q : t = k
    · subst q
      simp
    · have hq : ¬ nI t = nI k := fun e => q ((nI_eq (by omega) (by omega)).mp e)
      simp [hq, q]
theorem kept2_st {wd : WT} {x : MT} (hI : mI (mS x)) (hO : mO (mS x)) (hR : Rl wd (mS x)) {l c i : Nat} (hl : l < wLc wd) (hc : c < (wCh wd).1) (hi : i < (lOv (wLw wd l)).1) {gg : Int32} (hg : ib 0 219 gg) (kp : Int32) : w_kept2_st wd l (nI c) gg i kp = if kO x l c i gg = true then kp ||| ((1 : Int32) <<< (nI (mS x (546 + 3 * (10 * l + i) + 1)).toNatClampNeg &&& 31)) else kp := by
  have hl8 := hR.c3.2
  obtain ⟨-, -, -, -, -, ⟨-, ho⟩, hv, -⟩ := hR.lw hl
  obtain ⟨hf, ht⟩ := hO (10 * l + i) (by omega)
  obtain ⟨f, ef, f1, f2⟩ := hf.nI_eq (by decide)
  obtain ⟨t, et, t1, t2⟩ := ht.nI_eq (by decide)
  have h0 : f_at 3 (lOv (wLw wd l)) (nI i) 0 = nI f := by
    rw [show f_at 3 (lOv (wLw wd l)) (nI i) 0 = f_at 3 (lOv (wLw wd l)) (nI i) (nI 0) from rfl, at_eq (by omega) hi (by decide) (by decide), hv i hi 0 (by decide)]; exact ef
  have h1 : f_at 3 (lOv (wLw wd l)) (nI i) 1 = nI t := by
    rw [show f_at 3 (lOv (wLw wd l)) (nI i) 1 = f_at 3 (lOv (wLw wd l)) (nI i) (nI 1) from rfl, at_eq (by omega) hi (by decide) (by decide), hv i hi 1 (by decide)]; exact et
  have h2 : f_at 3 (lOv (wLw wd l)) (nI i) 2 = mS x (546 + 3 * (10 * l + i) + 2) := by
    rw [show f_at 3 (lOv (wLw wd l)) (nI i) 2 = f_at 3 (lOv (wLw wd l)) (nI i) (nI 2) from rfl, at_eq (by omega) hi (by decide) (by decide), hv i hi 2 (by decide)]
  have hm : ib 0 999 (mS x (546 + 3 * (10 * l + i) + 2)) := hI _ (546, 785, 0, 999) (by decide) (by show 546 ≤ _; omega) (by show _ ≤ 785; omega)
  unfold w_kept2_st kO
  rw [h0, h1, h2, taught_at hR hc (by omega), ef, et, nI_clamp (by omega), nI_clamp (by omega)]
  generalize mS x (546 + 3 * (10 * l + i) + 2) = mo at hm
  have hs : (gg - mo).toInt = gg.toInt - mo.toInt := by
    rw [Int32.toInt_sub]
    have := hg.1; have := hg.2; have := hm.1; have := hm.2
    exact Int.bmod_eq_of_le (by omega) (by omega)
  rcases (hR.ch hc).2 f (by omega) with ⟨e1, e2⟩ | ⟨e1, e2⟩
  · rw [e1, e2, if_pos (i32lt.mpr (by rw [t100, hs]; have := hg.2; have := hm.1; omega)), if_pos rfl, if_neg (by decide)]
  · have hn : ¬ mS x (138 + 4 * c + f) = -1 := fun e => by
      have := e2.1
      rw [e] at this
      exact absurd this (by decide)
    rw [e1, if_neg hn]
    generalize mS x (138 + 4 * c + f) = ta at e2
    have hs2 : (gg - ta).toInt = gg.toInt - ta.toInt := by
      rw [Int32.toInt_sub]
      have := hg.1; have := hg.2; have := e2.1; have := e2.2
      exact Int.bmod_eq_of_le (by omega) (by omega)
    by_cases z : gg - mo < ta
    · rw [if_pos z, if_pos (i32lt.mpr (by have := i32lt.mp z; rw [hs] at this; rw [hs2]; omega)), if_neg (by decide)]
    · have hz : ¬ gg - ta < mo := fun w => z (i32lt.mpr (by have := i32lt.mp w; rw [hs2] at this; rw [hs]; omega))
      rw [if_neg z, if_neg hz, if_pos rfl]
theorem kept2_eq {wd : WT} {x : MT} (hI : mI (mS x)) (hO : mO (mS x)) (hR : Rl wd (mS x)) {l c : Nat} (hl : l < wLc wd) (hc : c < (wCh wd).1) {gg : Int32} (hg : ib 0 219 gg) : ∀ i : Nat, i ≤ (lOv (wLw wd l)).1 → w_kept2 wd l (nI c) gg (w_kept1 wd l (nI c) gg 0 4) i = kv (r_keptIt x (nI l) (nI c) (nI 0) gg (kI x l c 0 gg) i) (r_keptIt x (nI l) (nI c) (nI 1) gg (kI x l c 1 gg) i) (r_keptIt x (nI l) (nI c) (nI 2) gg (kI x l c 2 gg) i) (r_keptIt x (nI l) (nI c) (nI 3) gg (kI x l c 3 gg) i)
  | 0, _ => kept1_eq hR hl hc hg
  | i + 1, hi => by
    have hl8 := hR.c3.2
    have hc8 := hR.c0.2
    obtain ⟨-, -, -, -, -, ⟨-, ho⟩, -⟩ := hR.lw hl
    have ih := kept2_eq hI hO hR hl hc hg i (by omega)
    have ht := (hO (10 * l + i) (by omega)).2
    have hj : (mS x (546 + 3 * (10 * l + i) + 1)).toNatClampNeg < 4 := by
      have := (ht.clamp (by decide)).2
      omega
    have e : ∀ k, k < 4 → r_keptIt x (nI l) (nI c) (nI k) gg (kI x l c k gg) (i + 1) = (r_keptIt x (nI l) (nI c) (nI k) gg (kI x l c k gg) i || (kO x l c i gg && (mS x (546 + 3 * (10 * l + i) + 1)).toNatClampNeg == k)) := fun k hk => keptIt_st hI hO (by omega) (by omega) (by omega) hk gg _
    show w_kept2_st wd l (nI c) gg i (w_kept2 wd l (nI c) gg (w_kept1 wd l (nI c) gg 0 4) i) = _
    rw [ih, kept2_st hI hO hR hl hc (by omega) hg, kv_if _ _ _ _ _ hj, e 0 (by decide), e 1 (by decide), e 2 (by decide), e 3 (by decide)]
theorem isKept_it {wd : WT} {x : MT} (hR : Rl wd (mS x)) {l c k : Nat} (hl : l < wLc wd) (hc : c < (wCh wd).1) (hk : k < 4) (gg : Int32) : r_isKept x (nI l) (nI c) (nI k) gg = r_keptIt x (nI l) (nI c) (nI k) gg (kI x l c k gg) (lOv (wLw wd l)).1 := by
  have hl8 := hR.c3.2
  have hc8 := hR.c0.2
  obtain ⟨-, -, -, -, -, ⟨e1, ho⟩, -⟩ := hR.lw hl
  unfold r_isKept
  rw [kept_init (by omega) (by omega) hk, show (538 : Int32) = nI 538 from rfl, cl2 (by omega), e1, nI_clamp (by omega)]
theorem kept_eq {wd : WT} {x : MT} (hI : mI (mS x)) (hO : mO (mS x)) (hR : Rl wd (mS x)) {l c : Nat} (hl : l < wLc wd) (hc : c < (wCh wd).1) {gg : Int32} (hg : ib 0 219 gg) : w_keptAt wd l (nI c) gg = kv (r_isKept x (nI l) (nI c) (nI 0) gg) (r_isKept x (nI l) (nI c) (nI 1) gg) (r_isKept x (nI l) (nI c) (nI 2) gg) (r_isKept x (nI l) (nI c) (nI 3) gg) := by
  unfold w_keptAt
  rw [kept2_eq hI hO hR hl hc hg _ (Nat.le_refl _), isKept_it hR hl hc (by decide), isKept_it hR hl hc (by decide), isKept_it hR hl hc (by decide), isKept_it hR hl hc (by decide)]

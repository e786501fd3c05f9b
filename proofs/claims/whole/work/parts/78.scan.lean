/-! the two readers see the same signs -/
def tpR (sz : Nat) (bt sv : Nat → Int32) : Prop := ∀ i, i < sz → bt i &&& 255 = sv (10 + i)
theorem here_v {sz pl : Nat} {bt sv : Nat → Int32} (hs : sz ≤ 120) (hp : pl ≤ sz) (ht : tpR sz bt sv) : (pl < sz ∧ ∃ j : Nat, j < 256 ∧ r_here sz pl sv = nI j ∧ bt pl &&& 255 = nI j) ∨ (pl = sz ∧ r_here sz pl sv = -1) := by
  unfold r_here
  rcases Nat.lt_or_ge pl sz with h | h
  · left
    obtain ⟨j, hj, e⟩ := pk_andE (bt pl) (m := 255) 8 (by decide)
    refine ⟨h, j, hj, ?_, e⟩
    rw [if_neg (nI_ge h (by omega)), show ((10 : Int32) + nI pl).toNatClampNeg = 10 + pl from cl2 (a := 10) (by omega), ← ht pl h]
    exact e
  · right
    exact ⟨by omega, by rw [if_pos (nI_le h (by omega))]⟩
theorem nIm9 {j : Nat} (h : j < 2 ^ 31) : nI j ≠ -1 := fun e => by
  have h1 := nI_toInt h
  rw [e] at h1
  have : (-1 : Int32).toInt = -1 := rfl
  omega
theorem here_up {sz pl : Nat} {bt sv : Nat → Int32} {g : Int32} (hs : sz ≤ 120) (hp : pl ≤ sz) (ht : tpR sz bt sv) (hg : g ≠ -1) (e : r_here sz pl sv = g) : pl + 1 ≤ sz := by
  rcases here_v hs hp ht with ⟨h, -⟩ | ⟨-, h⟩
  · exact h
  · exact absurd (e.symm.trans h) hg
theorem take_q {sz pl : Nat} {bt sv : Nat → Int32} {g : Int32} (hs : sz ≤ 120) (hp : pl ≤ sz) (ht : tpR sz bt sv) (hg : g ≠ -1) : q_take sz bt g pl = if r_here sz pl sv = g then (true, pl + 1) else (false, pl) := by
  unfold q_take
  rw [if_neg (nI_pos (by omega))]
  rcases here_v hs hp ht with ⟨h, j, hj, e1, e2⟩ | ⟨h, e⟩
  · rw [if_neg (nI_ge h (by omega)), if_neg (show ¬ (120 : Int32) ≤ nI pl from nI_ge (b := 120) (by omega) (by decide)), nI_clamp (by omega), e1, e2]
  · rw [if_pos (nI_le (by omega) (by omega)), e, if_neg (fun z => hg z.symm)]
theorem must_q {an sz pl : Nat} {sv : Nat → Int32} {g : Int32} : r_must an sz g pl false sv = if r_here sz pl sv = g then (pl + 1, false) else (pl, true) := by
  unfold r_must
  by_cases q : r_here sz pl sv = g
  · simp [q]
  · simp [q]
/-- which of some signs it is -/
def ixGo (i : Nat) (h : Int32) : Nat → Nat → Int32
  | 0, _ => -1
  | n + 1, k => if h = nI ((txB i).getD k 0) then nI k else ixGo i h n (k + 1)
def ix (i : Nat) (h : Int32) : Int32 := ixGo i h (txB i).length 0
theorem ixGo_s (i : Nat) (h : Int32) (n k : Nat) : ixGo i h (n + 1) k = if h = nI ((txB i).getD k 0) then nI k else ixGo i h n (k + 1) := rfl
theorem ixGo_m1 (i : Nat) : ∀ n k : Nat, ixGo i (-1) n k = -1
  | 0, _ => rfl
  | n + 1, k => by
    rw [ixGo_s, if_neg (fun e => nIm9 (by have := txB_get i k; omega) e.symm)]
    exact ixGo_m1 i n (k + 1)
theorem i8_lo : ∀ c, c < 128 → (nI c).toInt8.toInt32 = nI c := by decide
theorem i8_hi : ∀ c, c < 128 → (nI (128 + c)).toInt8.toInt32 < 0 := by decide
theorem i8_eq {t c : Nat} (ht : t < 128) (hc : c < 256) : (nI t = (nI c).toInt8.toInt32) ↔ nI c = nI t := by
  rcases Nat.lt_or_ge c 128 with h | h
  · rw [i8_lo c h]
    exact ⟨fun e => e.symm, fun e => e.symm⟩
  · obtain ⟨d, rfl⟩ : ∃ d, c = 128 + d := ⟨c - 128, by omega⟩
    have hn := i8_hi d (by omega)
    constructor
    · intro e
      rw [← e] at hn
      exact absurd hn (nI_pos (by omega))
    · intro e
      have := (nI_eq (by omega) (by omega)).mp e
      omega
theorem jix_eq (i : Nat) {c : Nat} (hc : c < 256) : ∀ n k : Nat, k + n ≤ 10 → j_ix i c n k = ixGo i (nI c) n k
  | 0, _, _ => rfl
  | n + 1, k, h => by
    rw [j_ix_s, ixGo_s, nI_clamp (by omega), jix_eq i hc n (k + 1) (by omega)]
    have e := i8_eq (txB_get i k) hc
    by_cases q : nI c = nI ((txB i).getD k 0)
    · rw [if_pos (e.mpr q), if_pos q]
    · rw [if_neg (fun z => q (e.mp z)), if_neg q]
theorem one_q {sz pl i : Nat} {bt sv : Nat → Int32} (hs : sz ≤ 120) (hp : pl ≤ sz) (ht : tpR sz bt sv) : q_takeOne sz bt i pl = (ix i (r_here sz pl sv), if ix i (r_here sz pl sv) < 0 then pl else pl + 1) := by
  have hv : (if (if (nI pl) < 0 then false else if (nI sz) ≤ (nI pl) then false else if 120 ≤ (nI pl) then false else true) = true then j_ix i (byN (bt (nI pl).toNatClampNeg)) (txB i).length 0 else (-1)) = ix i (r_here sz pl sv) := by
    rw [if_neg (show ¬ nI pl < 0 from nI_pos (by omega))]
    rcases here_v hs hp ht with ⟨h, j, hj, e1, e2⟩ | ⟨h, e⟩
    · rw [if_neg (nI_ge h (by omega)), if_neg (show ¬ (120 : Int32) ≤ nI pl from nI_ge (b := 120) (by omega) (by decide)), if_pos rfl, nI_clamp (by omega), e1]
      unfold byN
      rw [e2, nI_clamp (by omega)]
      exact jix_eq i hj _ 0 (by have := txB_len i; omega)
    · rw [if_pos (nI_le (by omega) (by omega)), if_neg (by decide), e]
      exact (ixGo_m1 i _ 0).symm
  unfold q_takeOne
  rw [hv]
  by_cases q : ix i (r_here sz pl sv) < 0
  · rw [if_pos q, if_pos q]
  · rw [if_neg q, if_neg q]
theorem amongGo_q (an sz i pl : Nat) (sv : Nat → Int32) : ∀ n k : Nat, k + n ≤ 10 → r_amongGo an sz i sv n k pl = (ixGo i (r_here sz pl sv) n k, if ixGo i (r_here sz pl sv) n k = -1 then pl else pl + 1)
  | 0, _, _ => by rw [r_amongGo_0]; rfl
  | n + 1, k, h => by
    rw [r_amongGo_s, ixGo_s]
    by_cases q : r_here sz pl sv = nI ((txB i).getD k 0)
    · rw [if_pos q, if_pos q, if_neg (nIm9 (by omega))]
    · rw [if_neg q, if_neg q]
      exact amongGo_q an sz i pl sv n (k + 1) (by omega)
theorem among_q (an sz i pl : Nat) (sv : Nat → Int32) : r_among an sz i pl sv = (ix i (r_here sz pl sv), if ix i (r_here sz pl sv) = -1 then pl else pl + 1) := amongGo_q an sz i pl sv _ 0 (by have := txB_len i; omega)
theorem ixGo_in (i : Nat) (h : Int32) : ∀ n k : Nat, ixGo i h n k = -1 ∨ (∃ j : Nat, k ≤ j ∧ j < k + n ∧ ixGo i h n k = nI j ∧ h = nI ((txB i).getD j 0))
  | 0, _ => .inl rfl
  | n + 1, k => by
    rw [ixGo_s]
    by_cases q : h = nI ((txB i).getD k 0)
    · rw [if_pos q]; exact .inr ⟨k, Nat.le_refl _, by omega, rfl, q⟩
    · rw [if_neg q]
      rcases ixGo_in i h n (k + 1) with z | ⟨j, a, b, c, d⟩
      · exact .inl z
      · exact .inr ⟨j, by omega, by omega, c, d⟩
theorem ix_in (i : Nat) (h : Int32) : ix i h = -1 ∨ (∃ j : Nat, j < (txB i).length ∧ ix i h = nI j ∧ h ≠ -1) := by
  rcases ixGo_in i h (txB i).length 0 with z | ⟨j, -, b, c, d⟩
  · exact .inl z
  · exact .inr ⟨j, by omega, c, by rw [d]; exact nIm9 (by have := txB_get i j; omega)⟩
/-- digits -/
theorem ixGo_dig {i len : Nat} (hl : ∀ k, k < len → (txB i).getD k 0 = 48 + k) (h10 : len ≤ 10) (h : Int32) : ∀ n k : Nat, k + n = len → (∀ j, k ≤ j → j < len → h = nI (48 + j) → ixGo i h n k = nI j) ∧ ((∀ j, k ≤ j → j < len → h ≠ nI (48 + j)) → ixGo i h n k = -1)
  | 0, k, e => ⟨fun j a b _ => by omega, fun _ => rfl⟩
  | n + 1, k, e => by
    obtain ⟨i1, i2⟩ := ixGo_dig hl h10 h n (k + 1) (by omega)
    rw [ixGo_s, hl k (by omega)]
    refine ⟨fun j a b c => ?_, fun z => ?_⟩
    · by_cases q : j = k
      · subst q; rw [if_pos c]
      · rw [if_neg (fun z => q (by have := (nI_eq (by omega) (by omega)).mp (c.symm.trans z); omega))]
        exact i1 j (by omega) b c
    · rw [if_neg (z k (Nat.le_refl _) (by omega))]
      exact i2 (fun j a b => z j (by omega) b)
theorem dig {i m : Nat} (hm : m ≤ 9) (hlen : (txB i).length = m + 1) (hl : ∀ k, k < m + 1 → (txB i).getD k 0 = 48 + k) (h : Int32) : (r_in h 48 (nI (48 + m)) = true ∧ ∃ j : Nat, j ≤ m ∧ h = nI (48 + j) ∧ ix i h = nI j ∧ h - 48 = nI j) ∨ (¬ r_in h 48 (nI (48 + m)) = true ∧ ix i h = -1) := by
  obtain ⟨i1, i2⟩ := ixGo_dig hl (by omega) h (m + 1) 0 (by omega)
  unfold ix
  rw [hlen]
  by_cases q : r_in h 48 (nI (48 + m)) = true
  · left
    refine ⟨q, ?_⟩
    have hb := (inS_iff _ _ _).mp q
    rw [nI_toInt (by omega)] at hb
    have e48 : (48 : Int32).toInt = 48 := rfl
    obtain ⟨v, hv, v1, v2⟩ := (show ib 48 (48 + m : Nat) h from ⟨by omega, by omega⟩).nI_eq (by decide)
    obtain ⟨j, rfl⟩ : ∃ j, v = 48 + j := ⟨v - 48, by omega⟩
    refine ⟨j, by omega, hv, i1 j (Nat.zero_le _) (by omega) hv, ?_⟩
    rw [hv, show (48 : Int32) = nI 48 from rfl, nI_sub (by omega)]
    congr 1
    omega
  · right
    refine ⟨q, i2 (fun j a b e => q ?_)⟩
    rw [e]
    exact (inS_iff _ _ _).mpr ⟨by rw [nI_toInt (by omega)]; have e48 : (48 : Int32).toInt = 48 := rfl; omega, by rw [nI_toInt (by omega), nI_toInt (by omega)]; omega⟩
theorem dig8 (h : Int32) : (r_in h 48 57 = true ∧ ∃ j : Nat, j ≤ 9 ∧ h = nI (48 + j) ∧ ix 8 h = nI j ∧ h - 48 = nI j) ∨ (¬ r_in h 48 57 = true ∧ ix 8 h = -1) := dig (i := 8) (m := 9) (by decide) rfl (by decide) h
theorem dig5 (h : Int32) : (r_in h 48 (48 + 3) = true ∧ ∃ j : Nat, j ≤ 3 ∧ h = nI (48 + j) ∧ ix 5 h = nI j ∧ h - 48 = nI j) ∨ (¬ r_in h 48 (48 + 3) = true ∧ ix 5 h = -1) := dig (i := 5) (m := 3) (by decide) rfl (by decide) h
theorem dig4 (h : Int32) : (r_in h 48 (48 + 2) = true ∧ ∃ j : Nat, j ≤ 2 ∧ h = nI (48 + j) ∧ ix 4 h = nI j ∧ h - 48 = nI j) ∨ (¬ r_in h 48 (48 + 2) = true ∧ ix 4 h = -1) := dig (i := 4) (m := 2) (by decide) rfl (by decide) h
theorem figure_q {an sz pl : Nat} {hi : Int32} {sv : Nat → Int32} : r_figure an sz hi pl false sv = if r_in (r_here sz pl sv) 48 (48 + hi) = true then (r_here sz pl sv - 48, pl + 1, false) else (0, pl, true) := by
  unfold r_figure
  by_cases q : r_in (r_here sz pl sv) 48 (48 + hi) = true
  · simp [q]
  · simp [q]
/-- numbers -/
theorem num_q {an sz pl : Nat} {bt sv : Nat → Int32} (hs : sz ≤ 120) (hp : pl ≤ sz) (ht : tpR sz bt sv) : (∃ v p : Nat, v ≤ 999 ∧ pl < p ∧ p ≤ sz ∧ q_readNumber sz bt pl = (nI v, p) ∧ r_figures an sz pl false sv = (nI v, p, false)) ∨ (q_readNumber sz bt pl = (-1, pl) ∧ r_figures an sz pl false sv = (0, pl, true)) := by
  unfold q_readNumber r_figures
  rw [one_q hs hp ht]
  rcases dig8 (r_here sz pl sv) with ⟨q, a, ha, ea, ia, sa⟩ | ⟨q, ia⟩
  · left
    have h1 : pl + 1 ≤ sz := here_up hs hp ht (nIm9 (by omega)) ea
    rw [ia, if_neg (show ¬ nI a < 0 from nI_pos (by omega)), if_neg (show ¬ (false = true) by decide), if_pos q]
    have f0 : r_figGo an sz sv 3 0 0 pl false = r_figGo an sz sv 2 1 (nI a) (pl + 1) false := by
      rw [r_figGo_s, if_neg (by decide), if_pos q, if_pos (show nI 0 = 0 from rfl), ea]
      congr 1
      rw [← sa, ea]
      show (10 * 0 + nI (48 + a)) - 48 = _
      rw [Int32.mul_zero, Int32.zero_add]
    rw [f0]
    dsimp only
    by_cases z : a = 0
    · subst z
      rw [if_pos (show nI 0 ≤ 0 by decide)]
      refine ⟨0, pl + 1, by decide, by omega, h1, rfl, ?_⟩
      rw [r_figGo_s, if_neg (by decide)]
      by_cases q1 : r_in (r_here sz (pl + 1) sv) 48 57 = true
      · rw [if_pos q1, if_neg (show ¬ nI 1 = 0 by decide), if_pos (show nI 0 ≤ 0 by decide)]
      · rw [if_neg q1]
    · have z1 : ¬ nI a ≤ 0 := nI_ge (a := 0) (by omega) (by omega)
      rw [if_neg z1, one_q hs h1 ht]
      rcases dig8 (r_here sz (pl + 1) sv) with ⟨q1, b, hb, eb, ib1, sb⟩ | ⟨q1, ib1⟩
      · have h2 : pl + 1 + 1 ≤ sz := here_up hs h1 ht (nIm9 (by omega)) eb
        have e10 : nI a * 10 + nI b = nI (a * 10 + b) := by rw [show (10 : Int32) = nI 10 from rfl, pk_mul, nI_add]
        rw [ib1, if_neg (show ¬ nI b < 0 from nI_pos (by omega))]
        dsimp only
        rw [if_pos (show 0 ≤ nI b from nI_pos' (by omega)), e10, if_neg (show ¬ nI (a * 10 + b) ≤ 0 from nI_ge (a := 0) (by omega) (by omega)), one_q hs h2 ht]
        have f1 : r_figGo an sz sv 2 1 (nI a) (pl + 1) false = r_figGo an sz sv 1 2 (nI (a * 10 + b)) (pl + 1 + 1) false := by
          rw [r_figGo_s, if_neg (by decide), if_pos q1, if_neg (show ¬ nI 1 = 0 by decide), if_neg z1, eb]
          congr 1
          rw [show (10 : Int32) = nI 10 from rfl, show (48 : Int32) = nI 48 from rfl, pk_mul, nI_add, nI_sub (by omega)]
          congr 1
          omega
        rw [f1]
        rcases dig8 (r_here sz (pl + 1 + 1) sv) with ⟨q2, c, hc, ec, ic, sc⟩ | ⟨q2, ic⟩
        · have h3 : pl + 1 + 1 + 1 ≤ sz := here_up hs h2 ht (nIm9 (by omega)) ec
          rw [ic, if_neg (show ¬ nI c < 0 from nI_pos (by omega))]
          dsimp only
          rw [if_pos (show 0 ≤ nI c from nI_pos' (by omega))]
          refine ⟨(a * 10 + b) * 10 + c, pl + 1 + 1 + 1, by omega, by omega, h3, ?_, ?_⟩
          · rw [show (10 : Int32) = nI 10 from rfl, pk_mul, nI_add]
          · rw [r_figGo_s, if_neg (by decide), if_pos q2, if_neg (show ¬ nI 2 = 0 by decide), if_neg (show ¬ nI (a * 10 + b) ≤ 0 from nI_ge (a := 0) (by omega) (by omega)), r_figGo_0, ec]
            rw [show (10 : Int32) = nI 10 from rfl, show (48 : Int32) = nI 48 from rfl, pk_mul, nI_add, nI_sub (by omega)]
            rw [show 10 * (a * 10 + b) + (48 + c) - 48 = (a * 10 + b) * 10 + c by omega]
        · rw [ic, if_pos (show (-1 : Int32) < 0 by decide)]
          dsimp only
          rw [if_neg (show ¬ (0 : Int32) ≤ -1 by decide)]
          refine ⟨a * 10 + b, pl + 1 + 1, by omega, by omega, h2, rfl, ?_⟩
          rw [r_figGo_s, if_neg (by decide), if_neg q2]
      · rw [ib1, if_pos (show (-1 : Int32) < 0 by decide)]
        dsimp only
        rw [if_neg (show ¬ (0 : Int32) ≤ -1 by decide)]
        refine ⟨a, pl + 1, by omega, by omega, h1, rfl, ?_⟩
        rw [r_figGo_s, if_neg (by decide), if_neg q1]
  · right
    rw [ia, if_pos (show (-1 : Int32) < 0 by decide), if_neg (show ¬ (false = true) by decide), if_neg q]
    refine ⟨?_, ?_⟩
    · dsimp only
      rw [if_pos (show (-1 : Int32) ≤ 0 by decide)]
    · rw [r_figGo_s, if_pos rfl]
/-- words -/
theorem spellGo_w (an sz i : Nat) (sv : Nat → Int32) : ∀ n k pl : Nat, r_spellGo an sz i sv n k pl true = (pl, true)
  | 0, _, _ => rfl
  | n + 1, k, pl => by
    rw [r_spellGo_s, must_w]
    exact spellGo_w an sz i sv n (k + 1) pl
theorem all_q {an sz i i2 : Nat} {bt sv : Nat → Int32} (hs : sz ≤ 120) (ht : tpR sz bt sv) : ∀ n k k2 pl : Nat, pl ≤ sz → (∀ j, j < n → (txB i).getD (k + j) 0 = (txB i2).getD (k2 + j) 0) → ∃ (b : Bool) (p : Nat), pl ≤ p ∧ p ≤ sz ∧ q_allGo sz bt i n k pl = (b, p) ∧ r_spellGo an sz i2 sv n k2 pl false = (p, !b)
  | 0, k, k2, pl, hp, _ => ⟨true, pl, Nat.le_refl _, hp, rfl, rfl⟩
  | n + 1, k, k2, pl, hp, h => by
    have e := h 0 (by omega)
    have e : (txB i).getD k 0 = (txB i2).getD k2 0 := e
    have hg : nI ((txB i).getD k 0) ≠ -1 := nIm9 (by have := txB_get i k; omega)
    rw [r_spellGo_s, must_q]
    unfold q_allGo
    rw [take_q hs hp ht hg, ← e]
    by_cases q : r_here sz pl sv = nI ((txB i).getD k 0)
    · rw [if_pos q, if_pos q]
      dsimp only
      rw [if_pos rfl]
      obtain ⟨b, p, h1, h2, h3, h4⟩ := all_q hs ht n (k + 1) (k2 + 1) (pl + 1) (here_up hs hp ht hg q) (fun j hj => by
        have := h (j + 1) (by omega)
        rw [show k + 1 + j = k + (j + 1) by omega, show k2 + 1 + j = k2 + (j + 1) by omega]
        exact this)
      exact ⟨b, p, by omega, h2, h3, h4⟩
    · rw [if_neg q, if_neg q]
      dsimp only
      rw [if_neg (by decide), spellGo_w]
      exact ⟨false, pl, Nat.le_refl _, hp, rfl, rfl⟩

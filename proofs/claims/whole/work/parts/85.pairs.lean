/-! each pair of calls: the two contracts, their answers alike, what is kept -/
abbrev ad5 (n0 : Nat) : Nat → Nat := fun j => n0 + 1 + j
abbrev td5 (n0 : Nat) : Nat → Nat := fun j => n0 + 51 + j
abbrev M6 (n0 : Nat) : Nat → Nat := fun j => n0 + 103 + j
def C5 (G : GG) (n0 : Nat) (wd wt : WT) (tk : Bool) (rn : Nat) (bo : Nat → Int32) (H : Heap) : Prop := CAt G (adC n0) (ad5 n0) (td5 n0) wd wt tk (nI rn) bo H
def c5A (n0 : Nat) : Nat → Prop := cA (adC n0) (ad5 n0) (td5 n0)
def m6A (n0 : Nat) : Nat → Prop := mA (M6 n0)
theorem c5A_in {n0 q : Nat} (h : c5A n0 q) : n0 ≤ q ∧ q < n0 + 103 := by
  rcases h with ⟨i, hi, rfl⟩ | ⟨j, hj, rfl⟩ | ⟨j, hj, rfl⟩
  · unfold adC; split <;> omega
  · show n0 ≤ n0 + 1 + j ∧ n0 + 1 + j < n0 + 103; omega
  · show n0 ≤ n0 + 51 + j ∧ n0 + 51 + j < n0 + 103; omega
theorem m6A_in {n0 q : Nat} (h : m6A n0 q) : n0 + 103 ≤ q ∧ q < n0 + 109 := by
  obtain ⟨i, hi, rfl⟩ := h
  show n0 + 103 ≤ n0 + 103 + i ∧ n0 + 103 + i < n0 + 109; omega
theorem mN_6 (n0 : Nat) : mN (M6 n0) := fun i j _ _ h => by show n0 + 103 + i ≠ n0 + 103 + j; omega
theorem C5.kept {G : GG} {n0 : Nat} {wd wt : WT} {tk : Bool} {rn : Nat} {bo : Nat → Int32} {H H1 : Heap} (h : C5 G n0 wd wt tk rn bo H) (hq : ∀ q : Nat, n0 ≤ q → q < n0 + 103 → H1[q]? = H[q]?) : C5 G n0 wd wt tk rn bo H1 := CAt.kept h fun q hz => hq q (c5A_in hz).1 (c5A_in hz).2
theorem s_m1 {M : Nat → Nat} : ∀ q, m1 M q → mA M q := fun q h => ⟨1, by decide, h⟩
theorem s_m0 {M : Nat → Nat} : ∀ q, m0 M q → mA M q := fun q h => ⟨0, by decide, h⟩
theorem s_m3 {M : Nat → Nat} : ∀ q, m3 M q → mA M q := fun q h => ⟨3, by decide, h⟩
theorem s_m34 {M : Nat → Nat} : ∀ q, m34 M q → mA M q := fun q h => h.elim (fun e => ⟨3, by decide, e⟩) (fun e => ⟨4, by decide, e⟩)
theorem s_m01 {M : Nat → Nat} : ∀ q, m01 M q → mA M q := fun q h => h.elim (fun e => ⟨0, by decide, e⟩) (fun e => ⟨1, by decide, e⟩)
theorem s_m02 {M : Nat → Nat} : ∀ q, m02 M q → mA M q := fun q h => h.elim (fun e => ⟨0, by decide, e⟩) (fun e => ⟨2, by decide, e⟩)
theorem s_m05 {M : Nat → Nat} : ∀ q, m05 M q → mA M q := fun q h => h.elim (fun e => ⟨0, by decide, e⟩) (fun e => ⟨5, by decide, e⟩)
abbrev K5 (l : Launch) (y : MethodName) (ws : List Cond) (rm : Room) (G : GG) (Z : AM) (n0 : Nat) (as : List Value) (v : Value) (wd wt : WT) (tk : Bool) (rn : Nat) (bo : Nat → Int32) (wd2 wt2 : WT) (tk2 : Bool) (rn2 : Nat) (bo2 : Nat → Int32) : Prop := Met l y ws rm (aP G Z (.ref n0 :: as) (C5 G n0 wd wt tk rn bo)) (wrQ (some v) (C5 G n0 wd2 wt2 tk2 rn2 bo2) (c5A n0)) 0 0 (c5A n0)
abbrev K6 (l : Launch) (y : MethodName) (ws : List Cond) (rm : Room) (G : GG) (Z : AM) (n0 : Nat) (as : List Value) (v : Value) (x : MT) (E : MT → Prop) : Prop := Met l y ws rm (aP G Z (.ref (n0 + 103) :: as) (MAt G (M6 n0) x)) (wrQ (some v) (fun H => ∃ y, MAt G (M6 n0) y H ∧ E y) (m6A n0)) 0 0 (m6A n0)
theorem met_ro2 {l : Launch} {y : MethodName} {ws : List Cond} {rm : Room} {G : GG} {Z : AM} {av : List Value} {B B3 : Heap → Prop} {r : Option Value} {A : Nat → Prop} (h : Met l y ws rm (aP G Z av B) (roQ r) 0 0 nF) (hB : ∀ H, B H → B3 H) : Met l y ws rm (aP G Z av B) (wrQ r B3 A) 0 0 A := by
  intro p e ha hc hk s m args below hf happ hP hK
  have h4 := hP.2.2.2
  obtain ⟨n, o, q1, q2, q3, q4, L, q5, q6⟩ := h p e ha hc hk s m args below hf happ hP hK
  exact ⟨n, o, q1, q2, q3, ⟨q4.1, q4.2 ▸ hB _ h4, by rw [q4.2], fun q _ => by rw [q4.2]⟩, L, q5, fun q hq => (q6 q hq).elim⟩
theorem met_ax {α : Type} {l : Launch} {y : MethodName} {ws : List Cond} {rm : Room} {G : GG} {Z : AM} {av : List Value} {B : α → Heap → Prop} {B0 : Heap → Prop} {B2 : α → Heap → Prop} {r : α → Option Value} {r0 : Option Value} {A A2 : Nat → Prop} {B3 : Heap → Prop} (h : ∀ a : α, Met l y ws rm (roP G av (B a)) (wrQ (r a) (B2 a) A) 0 0 A) (h0 : ∀ H, B0 H → ∃ a, B a H) (hr : ∀ a, r a = r0) (hB : ∀ a H, B2 a H → B3 H) (hA : ∀ q, A q → A2 q) : Met l y ws rm (aP G Z av B0) (wrQ r0 B3 A2) 0 0 A2 := by
  intro p e ha hc hk s m args below hf happ hP hK
  obtain ⟨h1, h2, h3, h4⟩ := hP
  obtain ⟨a, h5⟩ := h0 _ h4
  obtain ⟨n, o, q1, q2, q3, q4, L, q5, q6⟩ := h a p e ha hc hk s m args below hf happ ⟨h1, h2, h5⟩ hK
  exact ⟨n, o, q1, q2, q3, ⟨hr a ▸ q4.1, hB a _ q4.2.1, q4.2.2.1, fun q hq => q4.2.2.2 q (fun z => hq (hA q z))⟩, L, q5, fun q hq => hA _ (q6 q hq)⟩
theorem inv_w {wd wt w2 : WT} {tk : Bool} {rn : Nat} {bo : Nat → Int32} {x : MT} {s2 : Nat → Int32} (h : Inv9 wd wt tk rn bo x) (h1 : Rl w2 s2) (h2 : mJ s2) (h3 : byF (wTp w2).2.2) : Inv9 w2 wt tk rn bo (mSetS x s2) := ⟨h1, h2, h3, h.2.2.2⟩
theorem inv_ok {wd wt w2 : WT} {tk : Bool} {rn : Nat} {bo : Nat → Int32} {x : MT} {s2 : Nat → Int32} {a b : Int32} (h : Inv9 wd wt tk rn bo x) (h1 : wOk a b wd w2 s2) : Inv9 w2 wt tk rn bo (mSetS x s2) := inv_w h h1.2.1 h1.2.2.1 (by rw [h1.2.2.2]; exact h.2.2.1)
theorem act_hk {wd : WT} {s : Nat → Int32} (h : Rl wd s) (hJ : mJ s) : ∀ law : Int32, w_hasLaw wd law = true → f_isKind (lKind (wLw wd law.toNatClampNeg)) = true := by
  intro law hl
  unfold w_hasLaw at hl
  by_cases h1 : law < 0
  · rw [if_pos h1] at hl; cases hl
  · rw [if_neg h1] at hl
    by_cases h2 : nI (wLc wd) ≤ law
    · rw [if_pos h2] at hl; cases hl
    · rw [if_neg h2] at hl
      by_cases h3 : (8 : Int32) ≤ law
      · rw [if_pos h3] at hl; cases hl
      · obtain ⟨j, hj, rfl⟩ := nI_of h1
        have h4 : j < wLc wd := by
          rcases Nat.lt_or_ge j (wLc wd) with q | q
          · exact q
          · exact absurd (nI_le q hj) h2
        rw [nI_clamp hj]
        obtain ⟨k, hk, e, -⟩ := h.kind hJ h4
        rw [e]
        have : ∀ k : Nat, k < 7 → f_isKind (nI k) = true := by decide
        exact this k hk
set_option maxHeartbeats 1000000 in
theorem p_child (l : Launch) (G : GG) (Z : AM) (n0 : Nat) (hAZ : ∀ q : Nat, n0 ≤ q → Z.1 q) {wd wt : WT} {tk : Bool} {rn : Nat} {bo : Nat → Int32} {x : MT} (hI : Inv9 wd wt tk rn bo x) (v1 : Int32) : ∃ (v : Int32) (wd2 wt2 : WT) (tk2 : Bool) (rn2 : Nat) (bo2 : Nat → Int32), K5 l yX5_child wsX5_child { frames := 2, cells := 0, slots := 0, locals := 46 } G Z n0 [.int v1] (.int v) wd wt tk rn bo wd2 wt2 tk2 rn2 bo2 ∧ K6 l yX6_child wsX6_child { frames := 1, cells := 0, slots := 0, locals := 22 } G Z n0 [.int v1] (.int v) x (Inv9 wd2 wt2 tk2 rn2 bo2) := by
  have hR := hI.1
  have hJ := hI.2.1
  have hh1 : mI (mS x) := hJ.1
  have hh2 : mO (mS x) := hJ.2.1
  have hh3 : mW (mS x) := hJ.2.2.1
  have e := eq_child hJ hR v1
  refine ⟨(s_child wd v1).1, (s_child wd v1).2, wt, tk, rn, bo, met_am (c_X5_child l G (adC n0) (ad5 n0) (td5 n0) wd wt tk (nI rn) bo v1 (cN_new n0)), ?_⟩
  rw [e.1]
  exact met_wr (met_am (c_X6_child l G (M6 n0) x v1 hh1 hh2 (mN_6 n0))) (fun H h => h) (fun H h => ⟨_, h, inv_ok hI e⟩) s_m1
set_option maxHeartbeats 1000000 in
theorem p_age (l : Launch) (G : GG) (Z : AM) (n0 : Nat) (hAZ : ∀ q : Nat, n0 ≤ q → Z.1 q) {wd wt : WT} {tk : Bool} {rn : Nat} {bo : Nat → Int32} {x : MT} (hI : Inv9 wd wt tk rn bo x) (v1 : Int32) : ∃ (v : Int32) (wd2 wt2 : WT) (tk2 : Bool) (rn2 : Nat) (bo2 : Nat → Int32), K5 l yX5_age wsX5_age { frames := 1, cells := 0, slots := 0, locals := 22 } G Z n0 [.int v1] (.int v) wd wt tk rn bo wd2 wt2 tk2 rn2 bo2 ∧ K6 l yX6_age wsX6_age { frames := 2, cells := 0, slots := 0, locals := 43 } G Z n0 [.int v1] (.int v) x (Inv9 wd2 wt2 tk2 rn2 bo2) := by
  have hR := hI.1
  have hJ := hI.2.1
  have hh1 : mI (mS x) := hJ.1
  have hh2 : mO (mS x) := hJ.2.1
  have hh3 : mW (mS x) := hJ.2.2.1
  refine ⟨s_age wd v1, wd, wt, tk, rn, bo, met_ro (c_X5_age l G (adC n0) (ad5 n0) (td5 n0) wd wt tk (nI rn) bo v1) (fun H h => h), ?_⟩
  rw [eq_age hR v1]
  exact met_ro (c_X6_age l G (M6 n0) x v1 hh1) (fun H h => ⟨x, h, hI⟩)
set_option maxHeartbeats 1000000 in
theorem p_grow (l : Launch) (G : GG) (Z : AM) (n0 : Nat) (hAZ : ∀ q : Nat, n0 ≤ q → Z.1 q) {wd wt : WT} {tk : Bool} {rn : Nat} {bo : Nat → Int32} {x : MT} (hI : Inv9 wd wt tk rn bo x) (v1 : Int32) : ∃ (v : Int32) (wd2 wt2 : WT) (tk2 : Bool) (rn2 : Nat) (bo2 : Nat → Int32), K5 l yX5_grow wsX5_grow { frames := 2, cells := 0, slots := 0, locals := 62 } G Z n0 [.int v1] (.int v) wd wt tk rn bo wd2 wt2 tk2 rn2 bo2 ∧ K6 l yX6_grow wsX6_grow { frames := 1, cells := 0, slots := 0, locals := 22 } G Z n0 [.int v1] (.int v) x (Inv9 wd2 wt2 tk2 rn2 bo2) := by
  have hR := hI.1
  have hJ := hI.2.1
  have hh1 : mI (mS x) := hJ.1
  have hh2 : mO (mS x) := hJ.2.1
  have hh3 : mW (mS x) := hJ.2.2.1
  have e := eq_grow hJ hR v1
  refine ⟨(s_grow wd v1).1, (s_grow wd v1).2, wt, tk, rn, bo, met_am (c_X5_grow l G (adC n0) (ad5 n0) (td5 n0) wd wt tk (nI rn) bo v1 (cN_new n0)), ?_⟩
  rw [e.1]
  exact met_wr (met_am (c_X6_grow l G (M6 n0) x v1 hh1 hh2 (mN_6 n0))) (fun H h => h) (fun H h => ⟨_, h, inv_ok hI e⟩) s_m1
set_option maxHeartbeats 1000000 in
theorem p_asking (l : Launch) (G : GG) (Z : AM) (n0 : Nat) (hAZ : ∀ q : Nat, n0 ≤ q → Z.1 q) {wd wt : WT} {tk : Bool} {rn : Nat} {bo : Nat → Int32} {x : MT} (hI : Inv9 wd wt tk rn bo x) (v1 : Int32) (v2 : Int32) (v3 : Int32) (v4 : Bool) (v5 : Int32) (v6 : Int32) (v7 : Int32) : ∃ (v : Int32) (wd2 wt2 : WT) (tk2 : Bool) (rn2 : Nat) (bo2 : Nat → Int32), K5 l yX5_asking wsX5_asking { frames := 1, cells := 0, slots := 0, locals := 23 } G Z n0 [.int v1, .int v2, .int v3, .int (b2i v4), .int v5, .int v6, .int v7] (.int v) wd wt tk rn bo wd2 wt2 tk2 rn2 bo2 ∧ K6 l yX6_asking wsX6_asking { frames := 2, cells := 0, slots := 0, locals := 42 } G Z n0 [.int v1, .int v2, .int v3, .int (b2i v4), .int v5, .int v6, .int v7] (.int v) x (Inv9 wd2 wt2 tk2 rn2 bo2) := by
  have hR := hI.1
  have hJ := hI.2.1
  have hh1 : mI (mS x) := hJ.1
  have hh2 : mO (mS x) := hJ.2.1
  have hh3 : mW (mS x) := hJ.2.2.1
  have e := eq_asking hJ hR v1 v2 v3 v4 v5 v6 v7
  refine ⟨(s_asking wd v1 v2 v3 v4 v5 v6 v7).1, (s_asking wd v1 v2 v3 v4 v5 v6 v7).2, wt, tk, rn, bo, met_am (c_X5_asking l G (adC n0) (ad5 n0) (td5 n0) wd wt tk (nI rn) bo v1 v2 v3 v4 v5 v6 v7 (cN_new n0)), ?_⟩
  rw [e.1]
  exact met_wr (met_am (c_X6_asking l G (M6 n0) x v1 v2 v3 v4 v5 v6 v7 hh1 hh2 (mN_6 n0))) (fun H h => h) (fun H h => ⟨_, h, inv_ok hI e⟩) s_m1
set_option maxHeartbeats 1000000 in
theorem p_of (l : Launch) (G : GG) (Z : AM) (n0 : Nat) (hAZ : ∀ q : Nat, n0 ≤ q → Z.1 q) {wd wt : WT} {tk : Bool} {rn : Nat} {bo : Nat → Int32} {x : MT} (hI : Inv9 wd wt tk rn bo x) (v1 : Int32) (v2 : Int32) : ∃ (v : Int32) (wd2 wt2 : WT) (tk2 : Bool) (rn2 : Nat) (bo2 : Nat → Int32), K5 l yX5_of wsX5_of { frames := 1, cells := 0, slots := 0, locals := 22 } G Z n0 [.int v1, .int v2] (.int v) wd wt tk rn bo wd2 wt2 tk2 rn2 bo2 ∧ K6 l yX6_of wsX6_of { frames := 2, cells := 0, slots := 0, locals := 43 } G Z n0 [.int v1, .int v2] (.int v) x (Inv9 wd2 wt2 tk2 rn2 bo2) := by
  have hR := hI.1
  have hJ := hI.2.1
  have hh1 : mI (mS x) := hJ.1
  have hh2 : mO (mS x) := hJ.2.1
  have hh3 : mW (mS x) := hJ.2.2.1
  refine ⟨s_of wd v1 v2, wd, wt, tk, rn, bo, met_ro (c_X5_of l G (adC n0) (ad5 n0) (td5 n0) wd wt tk (nI rn) bo v1 v2) (fun H h => h), ?_⟩
  rw [eq_of hR v1 v2]
  exact met_ro (c_X6_of l G (M6 n0) x v1 v2 hh1) (fun H h => ⟨x, h, hI⟩)
set_option maxHeartbeats 1000000 in
theorem p_answer (l : Launch) (G : GG) (Z : AM) (n0 : Nat) (hAZ : ∀ q : Nat, n0 ≤ q → Z.1 q) {wd wt : WT} {tk : Bool} {rn : Nat} {bo : Nat → Int32} {x : MT} (hI : Inv9 wd wt tk rn bo x) (v1 : Int32) (v2 : Int32) (v3 : Int32) (v4 : Bool) : ∃ (v : Int32) (wd2 wt2 : WT) (tk2 : Bool) (rn2 : Nat) (bo2 : Nat → Int32), K5 l yX5_answer wsX5_answer { frames := 1, cells := 0, slots := 0, locals := 23 } G Z n0 [.int v1, .int v2, .int v3, .int (b2i v4)] (.int v) wd wt tk rn bo wd2 wt2 tk2 rn2 bo2 ∧ K6 l yX6_answer wsX6_answer { frames := 2, cells := 0, slots := 0, locals := 43 } G Z n0 [.int v1, .int v2, .int v3, .int (b2i v4)] (.int v) x (Inv9 wd2 wt2 tk2 rn2 bo2) := by
  have hR := hI.1
  have hJ := hI.2.1
  have hh1 : mI (mS x) := hJ.1
  have hh2 : mO (mS x) := hJ.2.1
  have hh3 : mW (mS x) := hJ.2.2.1
  have e := eq_answer hJ hR v1 v2 v3 v4
  refine ⟨(s_answer wd v1 v2 v3 v4).1, (s_answer wd v1 v2 v3 v4).2, wt, tk, rn, bo, met_am (c_X5_answer l G (adC n0) (ad5 n0) (td5 n0) wd wt tk (nI rn) bo v1 v2 v3 v4 (cN_new n0)), ?_⟩
  rw [e.1]
  exact met_wr (met_am (c_X6_answer l G (M6 n0) x v1 v2 v3 v4 hh1 hh2 (mN_6 n0))) (fun H h => h) (fun H h => ⟨_, h, inv_ok hI e⟩) s_m1
set_option maxHeartbeats 1000000 in
theorem p_answered (l : Launch) (G : GG) (Z : AM) (n0 : Nat) (hAZ : ∀ q : Nat, n0 ≤ q → Z.1 q) {wd wt : WT} {tk : Bool} {rn : Nat} {bo : Nat → Int32} {x : MT} (hI : Inv9 wd wt tk rn bo x) (v1 : Int32) (v2 : Int32) : ∃ (v : Int32) (wd2 wt2 : WT) (tk2 : Bool) (rn2 : Nat) (bo2 : Nat → Int32), K5 l yX5_answered wsX5_answered { frames := 1, cells := 0, slots := 0, locals := 22 } G Z n0 [.int v1, .int v2] (.int v) wd wt tk rn bo wd2 wt2 tk2 rn2 bo2 ∧ K6 l yX6_answered wsX6_answered { frames := 2, cells := 0, slots := 0, locals := 43 } G Z n0 [.int v1, .int v2] (.int v) x (Inv9 wd2 wt2 tk2 rn2 bo2) := by
  have hR := hI.1
  have hJ := hI.2.1
  have hh1 : mI (mS x) := hJ.1
  have hh2 : mO (mS x) := hJ.2.1
  have hh3 : mW (mS x) := hJ.2.2.1
  refine ⟨s_answered wd v1 v2, wd, wt, tk, rn, bo, met_ro (c_X5_answered l G (adC n0) (ad5 n0) (td5 n0) wd wt tk (nI rn) bo v1 v2) (fun H h => h), ?_⟩
  rw [eq_answered hR v1 v2]
  exact met_ro (c_X6_answered l G (M6 n0) x v1 v2 hh1) (fun H h => ⟨x, h, hI⟩)
set_option maxHeartbeats 1000000 in
theorem p_teach (l : Launch) (G : GG) (Z : AM) (n0 : Nat) (hAZ : ∀ q : Nat, n0 ≤ q → Z.1 q) {wd wt : WT} {tk : Bool} {rn : Nat} {bo : Nat → Int32} {x : MT} (hI : Inv9 wd wt tk rn bo x) (v1 : Int32) (v2 : Int32) : ∃ (v : Int32) (wd2 wt2 : WT) (tk2 : Bool) (rn2 : Nat) (bo2 : Nat → Int32), K5 l yX5_teach wsX5_teach { frames := 2, cells := 0, slots := 0, locals := 45 } G Z n0 [.int v1, .int v2] (.int v) wd wt tk rn bo wd2 wt2 tk2 rn2 bo2 ∧ K6 l yX6_teach wsX6_teach { frames := 2, cells := 0, slots := 0, locals := 43 } G Z n0 [.int v1, .int v2] (.int v) x (Inv9 wd2 wt2 tk2 rn2 bo2) := by
  have hR := hI.1
  have hJ := hI.2.1
  have hh1 : mI (mS x) := hJ.1
  have hh2 : mO (mS x) := hJ.2.1
  have hh3 : mW (mS x) := hJ.2.2.1
  have e := eq_teach hJ hR v1 v2
  refine ⟨(s_teach wd v1 v2).1, (s_teach wd v1 v2).2, wt, tk, rn, bo, met_am (c_X5_teach l G (adC n0) (ad5 n0) (td5 n0) wd wt tk (nI rn) bo v1 v2 (cN_new n0)), ?_⟩
  rw [e.1]
  exact met_wr (met_am (c_X6_teach l G (M6 n0) x v1 v2 hh1 hh2 (mN_6 n0))) (fun H h => h) (fun H h => ⟨_, h, inv_ok hI e⟩) s_m1
set_option maxHeartbeats 1000000 in
theorem p_feed (l : Launch) (G : GG) (Z : AM) (n0 : Nat) (hAZ : ∀ q : Nat, n0 ≤ q → Z.1 q) {wd wt : WT} {tk : Bool} {rn : Nat} {bo : Nat → Int32} {x : MT} (hI : Inv9 wd wt tk rn bo x) (v1 : Int64) (v2 : Int32) : ∃ (v : Int32) (wd2 wt2 : WT) (tk2 : Bool) (rn2 : Nat) (bo2 : Nat → Int32), K5 l yX5_feed wsX5_feed { frames := 1, cells := 0, slots := 0, locals := 24 } G Z n0 [.long v1, .int v2] (.int v) wd wt tk rn bo wd2 wt2 tk2 rn2 bo2 ∧ K6 l yX6_feed wsX6_feed { frames := 1, cells := 0, slots := 0, locals := 22 } G Z n0 [.long v1, .int v2] (.int v) x (Inv9 wd2 wt2 tk2 rn2 bo2) := by
  have hR := hI.1
  have hJ := hI.2.1
  have hh1 : mI (mS x) := hJ.1
  have hh2 : mO (mS x) := hJ.2.1
  have hh3 : mW (mS x) := hJ.2.2.1
  have e := eq_feed hJ hR hI.2.2.1 v1 v2
  refine ⟨(s_feed wd v1 v2).1, (s_feed wd v1 v2).2, wt, tk, rn, bo, met_am (c_X5_feed l G (adC n0) (ad5 n0) (td5 n0) wd wt tk (nI rn) bo v1 v2 (cN_new n0)), ?_⟩
  rw [e.1]
  exact met_wr (met_am (c_X6_feed l G (M6 n0) x v1 v2 hh1 hh2 (mN_6 n0))) (fun H h => h) (fun H h => ⟨_, h, inv_w hI e.2.1 e.2.2.1 e.2.2.2⟩) s_m1
set_option maxHeartbeats 1000000 in
theorem p_law (l : Launch) (G : GG) (Z : AM) (n0 : Nat) (hAZ : ∀ q : Nat, n0 ≤ q → Z.1 q) {wd wt : WT} {tk : Bool} {rn : Nat} {bo : Nat → Int32} {x : MT} (hI : Inv9 wd wt tk rn bo x) (v1 : Int32) (v2 : Int32) : ∃ (v : Int32) (wd2 wt2 : WT) (tk2 : Bool) (rn2 : Nat) (bo2 : Nat → Int32), K5 l yX5_law wsX5_law { frames := 30, cells := 0, slots := 0, locals := 1047 } G Z n0 [.int v1, .int v2] (.int v) wd wt tk rn bo wd2 wt2 tk2 rn2 bo2 ∧ K6 l yX6_law wsX6_law { frames := 30, cells := 0, slots := 0, locals := 1041 } G Z n0 [.int v1, .int v2] (.int v) x (Inv9 wd2 wt2 tk2 rn2 bo2) := by
  have hR := hI.1
  have hJ := hI.2.1
  have hh1 : mI (mS x) := hJ.1
  have hh2 : mO (mS x) := hJ.2.1
  have hh3 : mW (mS x) := hJ.2.2.1
  have e := eq_law hI v1 v2
  refine ⟨(s_law wd v1 v2).1, (s_law wd v1 v2).2, wt, tk, rn, bo, c_X5_law l G Z (adC n0) (ad5 n0) (td5 n0) wd wt tk (nI rn) bo v1 v2 (cN_new n0) (fun q hq => hAZ q (c5A_in hq).1), ?_⟩
  rw [e.1]
  exact met_wr (c3_X6_law l G Z (M6 n0) x v1 v2 hh1 (mN_6 n0) (fun q hq => hAZ q (by have := (m6A_in (s_m01 q hq)).1; omega))) (fun H h => h) (fun H h => h.elim fun y hy => ⟨y, hy.1, e.2 y hy.2⟩) s_m01
set_option maxHeartbeats 1000000 in
theorem p_told (l : Launch) (G : GG) (Z : AM) (n0 : Nat) (hAZ : ∀ q : Nat, n0 ≤ q → Z.1 q) {wd wt : WT} {tk : Bool} {rn : Nat} {bo : Nat → Int32} {x : MT} (hI : Inv9 wd wt tk rn bo x) (v1 : Int32) (v2 : Int32) : ∃ (v : Int32) (wd2 wt2 : WT) (tk2 : Bool) (rn2 : Nat) (bo2 : Nat → Int32), K5 l yX5_told wsX5_told { frames := 1, cells := 0, slots := 0, locals := 21 } G Z n0 [.int v1, .int v2] (.int v) wd wt tk rn bo wd2 wt2 tk2 rn2 bo2 ∧ K6 l yX6_told wsX6_told { frames := 2, cells := 0, slots := 0, locals := 43 } G Z n0 [.int v1, .int v2] (.int v) x (Inv9 wd2 wt2 tk2 rn2 bo2) := by
  have hR := hI.1
  have hJ := hI.2.1
  have hh1 : mI (mS x) := hJ.1
  have hh2 : mO (mS x) := hJ.2.1
  have hh3 : mW (mS x) := hJ.2.2.1
  refine ⟨s_told wd v1 v2, wd, wt, tk, rn, bo, met_ro (c_X5_told l G (adC n0) (ad5 n0) (td5 n0) wd wt tk (nI rn) bo v1 v2) (fun H h => h), ?_⟩
  rw [eq_told hR v1 v2]
  exact met_ro (c_X6_told l G (M6 n0) x v1 v2 hh1) (fun H h => ⟨x, h, hI⟩)
set_option maxHeartbeats 1000000 in
theorem p_keeps (l : Launch) (G : GG) (Z : AM) (n0 : Nat) (hAZ : ∀ q : Nat, n0 ≤ q → Z.1 q) {wd wt : WT} {tk : Bool} {rn : Nat} {bo : Nat → Int32} {x : MT} (hI : Inv9 wd wt tk rn bo x) (v1 : Int32) (v2 : Int32) (v3 : Int32) : ∃ (v : Int32) (wd2 wt2 : WT) (tk2 : Bool) (rn2 : Nat) (bo2 : Nat → Int32), K5 l yX5_keeps wsX5_keeps { frames := 2, cells := 0, slots := 0, locals := 48 } G Z n0 [.int v1, .int v2, .int v3] (.int v) wd wt tk rn bo wd2 wt2 tk2 rn2 bo2 ∧ K6 l yX6_keeps wsX6_keeps { frames := 2, cells := 0, slots := 0, locals := 43 } G Z n0 [.int v1, .int v2, .int v3] (.int v) x (Inv9 wd2 wt2 tk2 rn2 bo2) := by
  have hR := hI.1
  have hJ := hI.2.1
  have hh1 : mI (mS x) := hJ.1
  have hh2 : mO (mS x) := hJ.2.1
  have hh3 : mW (mS x) := hJ.2.2.1
  refine ⟨s_keeps wd v1 v2 v3, wd, wt, tk, rn, bo, met_ro (c_X5_keeps l G (adC n0) (ad5 n0) (td5 n0) wd wt tk (nI rn) bo v1 v2 v3) (fun H h => h), ?_⟩
  rw [eq_keeps hJ hR v1 v2 v3]
  exact met_ro (c_X6_keeps l G (M6 n0) x v1 v2 v3 hh1 hh2) (fun H h => ⟨x, h, hI⟩)
set_option maxHeartbeats 1000000 in
theorem p_tells (l : Launch) (G : GG) (Z : AM) (n0 : Nat) (hAZ : ∀ q : Nat, n0 ≤ q → Z.1 q) {wd wt : WT} {tk : Bool} {rn : Nat} {bo : Nat → Int32} {x : MT} (hI : Inv9 wd wt tk rn bo x) (v1 : Int32) (v2 : Int32) (v3 : Int32) : ∃ (v : Int32) (wd2 wt2 : WT) (tk2 : Bool) (rn2 : Nat) (bo2 : Nat → Int32), K5 l yX5_tells wsX5_tells { frames := 5, cells := 0, slots := 0, locals := 140 } G Z n0 [.int v1, .int v2, .int v3] (.int v) wd wt tk rn bo wd2 wt2 tk2 rn2 bo2 ∧ K6 l yX6_tells wsX6_tells { frames := 4, cells := 0, slots := 0, locals := 106 } G Z n0 [.int v1, .int v2, .int v3] (.int v) x (Inv9 wd2 wt2 tk2 rn2 bo2) := by
  have hR := hI.1
  have hJ := hI.2.1
  have hh1 : mI (mS x) := hJ.1
  have hh2 : mO (mS x) := hJ.2.1
  have hh3 : mW (mS x) := hJ.2.2.1
  refine ⟨s_tells wd v1 v2 v3, wd, wt, tk, rn, bo, met_ro (c_X5_tells l G (adC n0) (ad5 n0) (td5 n0) wd wt tk (nI rn) bo v1 v2 v3) (fun H h => h), ?_⟩
  rw [eq_tells hJ hR v1 v2 v3]
  exact met_wr (met_am (c_X6_tells l G (M6 n0) x v1 v2 v3 hh1 hh2 hh3 (mN_6 n0))) (fun H h => h) (fun H h => ⟨x, h, hI⟩) s_m3
set_option maxHeartbeats 1000000 in
theorem p_chance (l : Launch) (G : GG) (Z : AM) (n0 : Nat) (hAZ : ∀ q : Nat, n0 ≤ q → Z.1 q) {wd wt : WT} {tk : Bool} {rn : Nat} {bo : Nat → Int32} {x : MT} (hI : Inv9 wd wt tk rn bo x) (v1 : Int32) (v2 : Int32) (v3 : Int32) : ∃ (v : Int64) (wd2 wt2 : WT) (tk2 : Bool) (rn2 : Nat) (bo2 : Nat → Int32), K5 l yX5_chance wsX5_chance { frames := 6, cells := 0, slots := 0, locals := 163 } G Z n0 [.int v1, .int v2, .int v3] (.long v) wd wt tk rn bo wd2 wt2 tk2 rn2 bo2 ∧ K6 l yX6_chance wsX6_chance { frames := 6, cells := 0, slots := 0, locals := 150 } G Z n0 [.int v1, .int v2, .int v3] (.long v) x (Inv9 wd2 wt2 tk2 rn2 bo2) := by
  have hR := hI.1
  have hJ := hI.2.1
  have hh1 : mI (mS x) := hJ.1
  have hh2 : mO (mS x) := hJ.2.1
  have hh3 : mW (mS x) := hJ.2.2.1
  refine ⟨s_chance wd v1 v2 v3, wd, wt, tk, rn, bo, met_ro (c_X5_chance l G (adC n0) (ad5 n0) (td5 n0) wd wt tk (nI rn) bo v1 v2 v3) (fun H h => h), ?_⟩
  rw [eq_chance hJ hR v1 v2 v3]
  exact met_wr (met_am (c_X6_chance l G (M6 n0) x v1 v2 v3 hh1 hh2 hh3 (mN_6 n0))) (fun H h => h) (fun H h => ⟨x, h, hI⟩) s_m3
set_option maxHeartbeats 1000000 in
theorem p_odds (l : Launch) (G : GG) (Z : AM) (n0 : Nat) (hAZ : ∀ q : Nat, n0 ≤ q → Z.1 q) {wd wt : WT} {tk : Bool} {rn : Nat} {bo : Nat → Int32} {x : MT} (hI : Inv9 wd wt tk rn bo x) (v1 : Int32) (v2 : Int32) (v3 : Int32) : ∃ (v : Int64) (wd2 wt2 : WT) (tk2 : Bool) (rn2 : Nat) (bo2 : Nat → Int32), K5 l yX5_odds wsX5_odds { frames := 7, cells := 0, slots := 0, locals := 188 } G Z n0 [.int v1, .int v2, .int v3] (.long v) wd wt tk rn bo wd2 wt2 tk2 rn2 bo2 ∧ K6 l yX6_odds wsX6_odds { frames := 7, cells := 0, slots := 0, locals := 175 } G Z n0 [.int v1, .int v2, .int v3] (.long v) x (Inv9 wd2 wt2 tk2 rn2 bo2) := by
  have hR := hI.1
  have hJ := hI.2.1
  have hh1 : mI (mS x) := hJ.1
  have hh2 : mO (mS x) := hJ.2.1
  have hh3 : mW (mS x) := hJ.2.2.1
  refine ⟨s_odds wd v1 v2 v3, wd, wt, tk, rn, bo, met_ro (c_X5_odds l G (adC n0) (ad5 n0) (td5 n0) wd wt tk (nI rn) bo v1 v2 v3) (fun H h => h), ?_⟩
  rw [eq_odds hJ hR v1 v2 v3]
  exact met_wr (met_am (c_X6_odds l G (M6 n0) x v1 v2 v3 hh1 hh2 hh3 (mN_6 n0))) (fun H h => h) (fun H h => ⟨x, h, hI⟩) s_m3
set_option maxHeartbeats 1000000 in
theorem p_cannot (l : Launch) (G : GG) (Z : AM) (n0 : Nat) (hAZ : ∀ q : Nat, n0 ≤ q → Z.1 q) {wd wt : WT} {tk : Bool} {rn : Nat} {bo : Nat → Int32} {x : MT} (hI : Inv9 wd wt tk rn bo x) (v1 : Int32) : ∃ (v : Int32) (wd2 wt2 : WT) (tk2 : Bool) (rn2 : Nat) (bo2 : Nat → Int32), K5 l yX5_cannot wsX5_cannot { frames := 7, cells := 0, slots := 0, locals := 185 } G Z n0 [.int v1] (.int v) wd wt tk rn bo wd2 wt2 tk2 rn2 bo2 ∧ K6 l yX6_cannot wsX6_cannot { frames := 6, cells := 0, slots := 0, locals := 150 } G Z n0 [.int v1] (.int v) x (Inv9 wd2 wt2 tk2 rn2 bo2) := by
  have hR := hI.1
  have hJ := hI.2.1
  have hh1 : mI (mS x) := hJ.1
  have hh2 : mO (mS x) := hJ.2.1
  have hh3 : mW (mS x) := hJ.2.2.1
  refine ⟨s_cannot wd v1, wd, wt, tk, rn, bo, met_ro (c_X5_cannot l G (adC n0) (ad5 n0) (td5 n0) wd wt tk (nI rn) bo v1) (fun H h => h), ?_⟩
  rw [eq_cannot hJ hR v1]
  exact met_wr (met_am (c_X6_cannot l G (M6 n0) x v1 hh1 hh2 hh3 (mN_6 n0))) (fun H h => h) (fun H h => ⟨x, h, hI⟩) s_m3
set_option maxHeartbeats 1000000 in
theorem p_right (l : Launch) (G : GG) (Z : AM) (n0 : Nat) (hAZ : ∀ q : Nat, n0 ≤ q → Z.1 q) {wd wt : WT} {tk : Bool} {rn : Nat} {bo : Nat → Int32} {x : MT} (hI : Inv9 wd wt tk rn bo x) (v1 : Int32) : ∃ (v : Int32) (wd2 wt2 : WT) (tk2 : Bool) (rn2 : Nat) (bo2 : Nat → Int32), K5 l yX5_right wsX5_right { frames := 6, cells := 0, slots := 0, locals := 164 } G Z n0 [.int v1] (.int v) wd wt tk rn bo wd2 wt2 tk2 rn2 bo2 ∧ K6 l yX6_right wsX6_right { frames := 6, cells := 0, slots := 0, locals := 152 } G Z n0 [.int v1] (.int v) x (Inv9 wd2 wt2 tk2 rn2 bo2) := by
  have hR := hI.1
  have hJ := hI.2.1
  have hh1 : mI (mS x) := hJ.1
  have hh2 : mO (mS x) := hJ.2.1
  have hh3 : mW (mS x) := hJ.2.2.1
  refine ⟨s_right wd v1, wd, wt, tk, rn, bo, met_ro (c_X5_right l G (adC n0) (ad5 n0) (td5 n0) wd wt tk (nI rn) bo v1) (fun H h => h), ?_⟩
  rw [eq_right hJ hR v1]
  exact met_wr (met_am (c_X6_right l G (M6 n0) x v1 hh1 hh2 hh3 (mN_6 n0))) (fun H h => h) (fun H h => ⟨x, h, hI⟩) s_m3
set_option maxHeartbeats 1000000 in
theorem p_likeliest (l : Launch) (G : GG) (Z : AM) (n0 : Nat) (hAZ : ∀ q : Nat, n0 ≤ q → Z.1 q) {wd wt : WT} {tk : Bool} {rn : Nat} {bo : Nat → Int32} {x : MT} (hI : Inv9 wd wt tk rn bo x) (v1 : Int32) : ∃ (v : Int32) (wd2 wt2 : WT) (tk2 : Bool) (rn2 : Nat) (bo2 : Nat → Int32), K5 l yX5_likeliest wsX5_likeliest { frames := 7, cells := 0, slots := 0, locals := 188 } G Z n0 [.int v1] (.int v) wd wt tk rn bo wd2 wt2 tk2 rn2 bo2 ∧ K6 l yX6_likeliest wsX6_likeliest { frames := 7, cells := 0, slots := 0, locals := 175 } G Z n0 [.int v1] (.int v) x (Inv9 wd2 wt2 tk2 rn2 bo2) := by
  have hR := hI.1
  have hJ := hI.2.1
  have hh1 : mI (mS x) := hJ.1
  have hh2 : mO (mS x) := hJ.2.1
  have hh3 : mW (mS x) := hJ.2.2.1
  refine ⟨s_likeliest wd v1, wd, wt, tk, rn, bo, met_ro (c_X5_likeliest l G (adC n0) (ad5 n0) (td5 n0) wd wt tk (nI rn) bo v1) (fun H h => h), ?_⟩
  rw [eq_likeliest hJ hR v1]
  exact met_wr (met_am (c_X6_likeliest l G (M6 n0) x v1 hh1 hh2 hh3 (mN_6 n0))) (fun H h => h) (fun H h => ⟨x, h, hI⟩) s_m3
set_option maxHeartbeats 1000000 in
theorem p_rule (l : Launch) (G : GG) (Z : AM) (n0 : Nat) (hAZ : ∀ q : Nat, n0 ≤ q → Z.1 q) {wd wt : WT} {tk : Bool} {rn : Nat} {bo : Nat → Int32} {x : MT} (hI : Inv9 wd wt tk rn bo x) (v1 : Int32) : ∃ (v : Int32) (wd2 wt2 : WT) (tk2 : Bool) (rn2 : Nat) (bo2 : Nat → Int32), K5 l yX5_rule wsX5_rule { frames := 7, cells := 0, slots := 0, locals := 189 } G Z n0 [.int v1] (.int v) wd wt tk rn bo wd2 wt2 tk2 rn2 bo2 ∧ K6 l yX6_rule wsX6_rule { frames := 6, cells := 0, slots := 0, locals := 152 } G Z n0 [.int v1] (.int v) x (Inv9 wd2 wt2 tk2 rn2 bo2) := by
  have hR := hI.1
  have hJ := hI.2.1
  have hh1 : mI (mS x) := hJ.1
  have hh2 : mO (mS x) := hJ.2.1
  have hh3 : mW (mS x) := hJ.2.2.1
  refine ⟨s_rule wd v1, wd, wt, tk, rn, bo, met_ro (c_X5_rule l G (adC n0) (ad5 n0) (td5 n0) wd wt tk (nI rn) bo v1) (fun H h => h), ?_⟩
  rw [eq_rule hJ hR v1]
  exact met_wr (met_am (c_X6_rule l G (M6 n0) x v1 hh1 hh2 hh3 (mN_6 n0))) (fun H h => h) (fun H h => ⟨x, h, hI⟩) s_m3
set_option maxHeartbeats 1000000 in
theorem p_parts (l : Launch) (G : GG) (Z : AM) (n0 : Nat) (hAZ : ∀ q : Nat, n0 ≤ q → Z.1 q) {wd wt : WT} {tk : Bool} {rn : Nat} {bo : Nat → Int32} {x : MT} (hI : Inv9 wd wt tk rn bo x) (v1 : Int32) (v2 : Int32) : ∃ (v : Int32) (wd2 wt2 : WT) (tk2 : Bool) (rn2 : Nat) (bo2 : Nat → Int32), K5 l yX5_parts wsX5_parts { frames := 6, cells := 0, slots := 0, locals := 165 } G Z n0 [.int v1, .int v2] (.int v) wd wt tk rn bo wd2 wt2 tk2 rn2 bo2 ∧ K6 l yX6_parts wsX6_parts { frames := 4, cells := 0, slots := 0, locals := 106 } G Z n0 [.int v1, .int v2] (.int v) x (Inv9 wd2 wt2 tk2 rn2 bo2) := by
  have hR := hI.1
  have hJ := hI.2.1
  have hh1 : mI (mS x) := hJ.1
  have hh2 : mO (mS x) := hJ.2.1
  have hh3 : mW (mS x) := hJ.2.2.1
  refine ⟨s_parts wd v1 v2, wd, wt, tk, rn, bo, met_ro (c_X5_parts l G (adC n0) (ad5 n0) (td5 n0) wd wt tk (nI rn) bo v1 v2) (fun H h => h), ?_⟩
  rw [eq_parts hJ hR v1 v2]
  exact met_wr (met_am (c_X6_parts l G (M6 n0) x v1 v2 hh1 hh2 hh3 (mN_6 n0))) (fun H h => h) (fun H h => ⟨x, h, hI⟩) s_m3
set_option maxHeartbeats 1000000 in
theorem p_next (l : Launch) (G : GG) (Z : AM) (n0 : Nat) (hAZ : ∀ q : Nat, n0 ≤ q → Z.1 q) {wd wt : WT} {tk : Bool} {rn : Nat} {bo : Nat → Int32} {x : MT} (hI : Inv9 wd wt tk rn bo x) (v1 : Int32) : ∃ (v : Int32) (wd2 wt2 : WT) (tk2 : Bool) (rn2 : Nat) (bo2 : Nat → Int32), K5 l yX5_next wsX5_next { frames := 7, cells := 0, slots := 0, locals := 192 } G Z n0 [.int v1] (.int v) wd wt tk rn bo wd2 wt2 tk2 rn2 bo2 ∧ K6 l yX6_next wsX6_next { frames := 4, cells := 0, slots := 0, locals := 106 } G Z n0 [.int v1] (.int v) x (Inv9 wd2 wt2 tk2 rn2 bo2) := by
  have hR := hI.1
  have hJ := hI.2.1
  have hh1 : mI (mS x) := hJ.1
  have hh2 : mO (mS x) := hJ.2.1
  have hh3 : mW (mS x) := hJ.2.2.1
  refine ⟨s_next wd v1, wd, wt, tk, rn, bo, met_ro (c_X5_next l G (adC n0) (ad5 n0) (td5 n0) wd wt tk (nI rn) bo v1) (fun H h => h), ?_⟩
  exact met_ax (fun He => c_X6_next l G (M6 n0) x He v1 hh1 hh2 hh3 (mN_6 n0)) (fun H h => h.he) (fun He => by rw [eq_next hJ hR He v1]) (fun He H h => ⟨x, h.to, hI⟩) s_m34
set_option maxHeartbeats 1000000 in
theorem p_moves (l : Launch) (G : GG) (Z : AM) (n0 : Nat) (hAZ : ∀ q : Nat, n0 ≤ q → Z.1 q) {wd wt : WT} {tk : Bool} {rn : Nat} {bo : Nat → Int32} {x : MT} (hI : Inv9 wd wt tk rn bo x) (v1 : Int32) (v2 : Int32) : ∃ (v : Int64) (wd2 wt2 : WT) (tk2 : Bool) (rn2 : Nat) (bo2 : Nat → Int32), K5 l yX5_moves wsX5_moves { frames := 4, cells := 0, slots := 0, locals := 102 } G Z n0 [.int v1, .int v2] (.long v) wd wt tk rn bo wd2 wt2 tk2 rn2 bo2 ∧ K6 l yX6_moves wsX6_moves { frames := 2, cells := 0, slots := 0, locals := 53 } G Z n0 [.int v1, .int v2] (.long v) x (Inv9 wd2 wt2 tk2 rn2 bo2) := by
  have hR := hI.1
  have hJ := hI.2.1
  have hh1 : mI (mS x) := hJ.1
  have hh2 : mO (mS x) := hJ.2.1
  have hh3 : mW (mS x) := hJ.2.2.1
  refine ⟨s_moves wd v1 v2, wd, wt, tk, rn, bo, met_ro (c_X5_moves l G (adC n0) (ad5 n0) (td5 n0) wd wt tk (nI rn) bo v1 v2) (fun H h => h), ?_⟩
  rw [eq_moves hJ hR (mAl x) (mSa x) v1 v2]
  exact met_wr (met_am (c_X6_moves l G (M6 n0) x (mAl x) (mSa x) v1 v2 hh1 hh2 hh3 (mN_6 n0))) (fun H h => h) (fun H h => ⟨_, h, hI⟩) s_m0
set_option maxHeartbeats 1000000 in
theorem p_fooled (l : Launch) (G : GG) (Z : AM) (n0 : Nat) (hAZ : ∀ q : Nat, n0 ≤ q → Z.1 q) {wd wt : WT} {tk : Bool} {rn : Nat} {bo : Nat → Int32} {x : MT} (hI : Inv9 wd wt tk rn bo x)  : ∃ (v : Int32) (wd2 wt2 : WT) (tk2 : Bool) (rn2 : Nat) (bo2 : Nat → Int32), K5 l yX5_fooled wsX5_fooled { frames := 3, cells := 0, slots := 0, locals := 66 } G Z n0 [] (.int v) wd wt tk rn bo wd2 wt2 tk2 rn2 bo2 ∧ K6 l yX6_fooled wsX6_fooled { frames := 1, cells := 0, slots := 0, locals := 21 } G Z n0 [] (.int v) x (Inv9 wd2 wt2 tk2 rn2 bo2) := by
  have hR := hI.1
  have hJ := hI.2.1
  have hh1 : mI (mS x) := hJ.1
  have hh2 : mO (mS x) := hJ.2.1
  have hh3 : mW (mS x) := hJ.2.2.1
  refine ⟨s_fooled wd, wd, wt, tk, rn, bo, met_ro (c_X5_fooled l G (adC n0) (ad5 n0) (td5 n0) wd wt tk (nI rn) bo) (fun H h => h), ?_⟩
  rw [eq_fooled hJ hR]
  exact met_ro (c_X6_fooled l G (M6 n0) x hh1 hh2) (fun H h => ⟨x, h, hI⟩)
set_option maxHeartbeats 1000000 in
theorem p_once (l : Launch) (G : GG) (Z : AM) (n0 : Nat) (hAZ : ∀ q : Nat, n0 ≤ q → Z.1 q) {wd wt : WT} {tk : Bool} {rn : Nat} {bo : Nat → Int32} {x : MT} (hI : Inv9 wd wt tk rn bo x)  : ∃ (v : Int32) (wd2 wt2 : WT) (tk2 : Bool) (rn2 : Nat) (bo2 : Nat → Int32), K5 l yX5_once wsX5_once { frames := 5, cells := 0, slots := 0, locals := 116 } G Z n0 [] (.int v) wd wt tk rn bo wd2 wt2 tk2 rn2 bo2 ∧ K6 l yX6_once wsX6_once { frames := 2, cells := 0, slots := 0, locals := 45 } G Z n0 [] (.int v) x (Inv9 wd2 wt2 tk2 rn2 bo2) := by
  have hR := hI.1
  have hJ := hI.2.1
  have hh1 : mI (mS x) := hJ.1
  have hh2 : mO (mS x) := hJ.2.1
  have hh3 : mW (mS x) := hJ.2.2.1
  refine ⟨s_once wd, wd, wt, tk, rn, bo, met_ro (c_X5_once l G (adC n0) (ad5 n0) (td5 n0) wd wt tk (nI rn) bo) (fun H h => h), ?_⟩
  rw [eq_once hJ hR]
  exact met_ro (c_X6_once l G (M6 n0) x hh1 hh2) (fun H h => ⟨x, h, hI⟩)
set_option maxHeartbeats 1000000 in
theorem p_order (l : Launch) (G : GG) (Z : AM) (n0 : Nat) (hAZ : ∀ q : Nat, n0 ≤ q → Z.1 q) {wd wt : WT} {tk : Bool} {rn : Nat} {bo : Nat → Int32} {x : MT} (hI : Inv9 wd wt tk rn bo x) (v1 : Int32) (v2 : Int32) : ∃ (v : Int32) (wd2 wt2 : WT) (tk2 : Bool) (rn2 : Nat) (bo2 : Nat → Int32), K5 l yX5_order wsX5_order { frames := 4, cells := 0, slots := 0, locals := 93 } G Z n0 [.int v1, .int v2] (.int v) wd wt tk rn bo wd2 wt2 tk2 rn2 bo2 ∧ K6 l yX6_order wsX6_order { frames := 2, cells := 0, slots := 0, locals := 45 } G Z n0 [.int v1, .int v2] (.int v) x (Inv9 wd2 wt2 tk2 rn2 bo2) := by
  have hR := hI.1
  have hJ := hI.2.1
  have hh1 : mI (mS x) := hJ.1
  have hh2 : mO (mS x) := hJ.2.1
  have hh3 : mW (mS x) := hJ.2.2.1
  refine ⟨s_order wd v1 v2, wd, wt, tk, rn, bo, met_ro (c_X5_order l G (adC n0) (ad5 n0) (td5 n0) wd wt tk (nI rn) bo v1 v2) (fun H h => h), ?_⟩
  rw [eq_order hJ hR v1 v2]
  exact met_ro (c_X6_order l G (M6 n0) x v1 v2 hh1 hh2) (fun H h => ⟨x, h, hI⟩)
set_option maxHeartbeats 1000000 in
theorem p_from (l : Launch) (G : GG) (Z : AM) (n0 : Nat) (hAZ : ∀ q : Nat, n0 ≤ q → Z.1 q) {wd wt : WT} {tk : Bool} {rn : Nat} {bo : Nat → Int32} {x : MT} (hI : Inv9 wd wt tk rn bo x) (v1 : Int32) (v2 : Bool) : ∃ (v : Int32) (wd2 wt2 : WT) (tk2 : Bool) (rn2 : Nat) (bo2 : Nat → Int32), K5 l yX5_from wsX5_from { frames := 4, cells := 0, slots := 0, locals := 94 } G Z n0 [.int v1, .int (b2i v2)] (.int v) wd wt tk rn bo wd2 wt2 tk2 rn2 bo2 ∧ K6 l yX6_from wsX6_from { frames := 2, cells := 0, slots := 0, locals := 42 } G Z n0 [.int v1, .int (b2i v2)] (.int v) x (Inv9 wd2 wt2 tk2 rn2 bo2) := by
  have hR := hI.1
  have hJ := hI.2.1
  have hh1 : mI (mS x) := hJ.1
  have hh2 : mO (mS x) := hJ.2.1
  have hh3 : mW (mS x) := hJ.2.2.1
  refine ⟨s_from wd v1 v2, wd, wt, tk, rn, bo, met_ro (c_X5_from l G (adC n0) (ad5 n0) (td5 n0) wd wt tk (nI rn) bo v1 v2) (fun H h => h), ?_⟩
  rw [eq_from hJ hR v1 v2]
  exact met_ro (c_X6_from l G (M6 n0) x v1 v2 hh1 hh2) (fun H h => ⟨x, h, hI⟩)
set_option maxHeartbeats 1000000 in
theorem p_spread (l : Launch) (G : GG) (Z : AM) (n0 : Nat) (hAZ : ∀ q : Nat, n0 ≤ q → Z.1 q) {wd wt : WT} {tk : Bool} {rn : Nat} {bo : Nat → Int32} {x : MT} (hI : Inv9 wd wt tk rn bo x) (v1 : Int32) (v2 : Int32) (v3 : Int32) : ∃ (v : Int32) (wd2 wt2 : WT) (tk2 : Bool) (rn2 : Nat) (bo2 : Nat → Int32), K5 l yX5_spread wsX5_spread { frames := 2, cells := 0, slots := 0, locals := 48 } G Z n0 [.int v1, .int v2, .int v3] (.int v) wd wt tk rn bo wd2 wt2 tk2 rn2 bo2 ∧ K6 l yX6_spread wsX6_spread { frames := 2, cells := 0, slots := 0, locals := 43 } G Z n0 [.int v1, .int v2, .int v3] (.int v) x (Inv9 wd2 wt2 tk2 rn2 bo2) := by
  have hR := hI.1
  have hJ := hI.2.1
  have hh1 : mI (mS x) := hJ.1
  have hh2 : mO (mS x) := hJ.2.1
  have hh3 : mW (mS x) := hJ.2.2.1
  refine ⟨s_spread wd v1 v2 v3, wd, wt, tk, rn, bo, met_ro (c_X5_spread l G (adC n0) (ad5 n0) (td5 n0) wd wt tk (nI rn) bo v1 v2 v3) (fun H h => h), ?_⟩
  rw [eq_spread hJ hR v1 v2 v3]
  exact met_ro (c_X6_spread l G (M6 n0) x v1 v2 v3 hh1 hh2) (fun H h => ⟨x, h, hI⟩)
set_option maxHeartbeats 1000000 in
theorem p_act (l : Launch) (G : GG) (Z : AM) (n0 : Nat) (hAZ : ∀ q : Nat, n0 ≤ q → Z.1 q) {wd wt : WT} {tk : Bool} {rn : Nat} {bo : Nat → Int32} {x : MT} (hI : Inv9 wd wt tk rn bo x) (v1 : Int32) (v2 : Int32) (v3 : Int32) : ∃ (v : Int32) (wd2 wt2 : WT) (tk2 : Bool) (rn2 : Nat) (bo2 : Nat → Int32), K5 l yX5_act wsX5_act { frames := 87, cells := 0, slots := 0, locals := 1790 } G Z n0 [.int v1, .int v2, .int v3] (.int v) wd wt tk rn bo wd2 wt2 tk2 rn2 bo2 ∧ K6 l yX6_act wsX6_act { frames := 8, cells := 0, slots := 0, locals := 169 } G Z n0 [.int v1, .int v2, .int v3] (.int v) x (Inv9 wd2 wt2 tk2 rn2 bo2) := by
  have hR := hI.1
  have hJ := hI.2.1
  have hh1 : mI (mS x) := hJ.1
  have hh2 : mO (mS x) := hJ.2.1
  have hh3 : mW (mS x) := hJ.2.2.1
  have e := eq_act hI v1 v2 v3
  refine ⟨(s_act wd v1 v2 v3 rn bo).1, wd, wt, tk, (s_act wd v1 v2 v3 rn bo).2.1, (s_act wd v1 v2 v3 rn bo).2.2, c_X5_act l G Z (adC n0) (ad5 n0) (td5 n0) wd wt tk rn bo v1 v2 v3 (cN_new n0) (fun q hq => hAZ q (c5A_in hq).1) (act_hk hR hJ), ?_⟩
  rw [e.1]
  exact met_wr (met_am (c_X6_act l G (M6 n0) x v1 v2 v3 hh1 hh2 (mN_6 n0))) (fun H h => h) (fun H h => ⟨_, h.to, e.2⟩) s_m05
set_option maxHeartbeats 1000000 in
theorem p_trace (l : Launch) (G : GG) (Z : AM) (n0 : Nat) (hAZ : ∀ q : Nat, n0 ≤ q → Z.1 q) {wd wt : WT} {tk : Bool} {rn : Nat} {bo : Nat → Int32} {x : MT} (hI : Inv9 wd wt tk rn bo x) (v1 : Int32) : ∃ (v : Int32) (wd2 wt2 : WT) (tk2 : Bool) (rn2 : Nat) (bo2 : Nat → Int32), K5 l yX5_trace wsX5_trace { frames := 0, cells := 0, slots := 0, locals := 0 } G Z n0 [.int v1] (.int v) wd wt tk rn bo wd2 wt2 tk2 rn2 bo2 ∧ K6 l yX6_trace wsX6_trace { frames := 1, cells := 0, slots := 0, locals := 22 } G Z n0 [.int v1] (.int v) x (Inv9 wd2 wt2 tk2 rn2 bo2) := by
  have hR := hI.1
  have hJ := hI.2.1
  have hh1 : mI (mS x) := hJ.1
  have hh2 : mO (mS x) := hJ.2.1
  have hh3 : mW (mS x) := hJ.2.2.1
  have hr : ib 0 1000 (mRa x) := by
    rw [hI.2.2.2.2.2.2.1]
    have hn := hI.2.2.2.2.2.2.2.1
    have q := ib_nI (n := rn) (by omega)
    exact ⟨by have := q.1; omega, by have := q.2; omega⟩
  refine ⟨s_trace wd (nI rn) bo v1, wd, wt, tk, rn, bo, met_ro (c_X5_trace l G (adC n0) (ad5 n0) (td5 n0) wd wt tk (nI rn) bo v1) (fun H h => h), ?_⟩
  rw [eq_trace wd hI.2.2.2.2.2.2.1 hI.2.2.2.2.2.2.2.1 hI.2.2.2.2.2.2.2.2 v1]
  exact met_ro (c_X6_trace l G (M6 n0) x v1 hh1 hh2 hr) (fun H h => ⟨x, h, hI⟩)
set_option maxHeartbeats 1000000 in
theorem p_as (l : Launch) (G : GG) (Z : AM) (n0 : Nat) (hAZ : ∀ q : Nat, n0 ≤ q → Z.1 q) {wd wt : WT} {tk : Bool} {rn : Nat} {bo : Nat → Int32} {x : MT} (hI : Inv9 wd wt tk rn bo x) (v1 : Int32) (v2 : Int32) : ∃ (v : Int32) (wd2 wt2 : WT) (tk2 : Bool) (rn2 : Nat) (bo2 : Nat → Int32), K5 l yX5_as wsX5_as { frames := 2, cells := 0, slots := 0, locals := 43 } G Z n0 [.int v1, .int v2] (.int v) wd wt tk rn bo wd2 wt2 tk2 rn2 bo2 ∧ K6 l yX6_as wsX6_as { frames := 2, cells := 0, slots := 0, locals := 43 } G Z n0 [.int v1, .int v2] (.int v) x (Inv9 wd2 wt2 tk2 rn2 bo2) := by
  have hR := hI.1
  have hJ := hI.2.1
  have hh1 : mI (mS x) := hJ.1
  have hh2 : mO (mS x) := hJ.2.1
  have hh3 : mW (mS x) := hJ.2.2.1
  refine ⟨s_as wd v1 v2, wd, wt, tk, rn, bo, met_ro2 (c_X5_as l G Z (adC n0) (ad5 n0) (td5 n0) wd wt tk (nI rn) bo v1 v2) (fun H h => h), ?_⟩
  rw [eq_as hJ hR v1 v2]
  exact met_ro (c_X6_as l G (M6 n0) x v1 v2 hh1 hh2) (fun H h => ⟨x, h, hI⟩)
set_option maxHeartbeats 1000000 in
theorem p_image (l : Launch) (G : GG) (Z : AM) (n0 : Nat) (hAZ : ∀ q : Nat, n0 ≤ q → Z.1 q) {wd wt : WT} {tk : Bool} {rn : Nat} {bo : Nat → Int32} {x : MT} (hI : Inv9 wd wt tk rn bo x)  : ∃ (v : Int32) (wd2 wt2 : WT) (tk2 : Bool) (rn2 : Nat) (bo2 : Nat → Int32), K5 l yX5_image wsX5_image { frames := 4, cells := 0, slots := 0, locals := 124 } G Z n0 [] (.int v) wd wt tk rn bo wd2 wt2 tk2 rn2 bo2 ∧ K6 l yX6_image wsX6_image { frames := 0, cells := 0, slots := 0, locals := 0 } G Z n0 [] (.int v) x (Inv9 wd2 wt2 tk2 rn2 bo2) := by
  have hR := hI.1
  have hJ := hI.2.1
  have hh1 : mI (mS x) := hJ.1
  have hh2 : mO (mS x) := hJ.2.1
  have hh3 : mW (mS x) := hJ.2.2.1
  have e := eq_image hI
  refine ⟨(s_image wd wt tk).1, wd, (s_image wd wt tk).2.1, (s_image wd wt tk).2.2, rn, bo, met_am (c_X5_image l G (adC n0) (ad5 n0) (td5 n0) wd wt tk (nI rn) bo (cN_new n0) hI.2.2.1), ?_⟩
  rw [e.1]
  exact met_wr (met_am (c_X6_image l G (M6 n0) x (mN_6 n0))) (fun H h => h) (fun H h => ⟨_, h, e.2⟩) s_m02
set_option maxHeartbeats 1000000 in
theorem p_undo (l : Launch) (G : GG) (Z : AM) (n0 : Nat) (hAZ : ∀ q : Nat, n0 ≤ q → Z.1 q) {wd wt : WT} {tk : Bool} {rn : Nat} {bo : Nat → Int32} {x : MT} (hI : Inv9 wd wt tk rn bo x)  : ∃ (v : Int32) (wd2 wt2 : WT) (tk2 : Bool) (rn2 : Nat) (bo2 : Nat → Int32), K5 l yX5_undo wsX5_undo { frames := 4, cells := 0, slots := 0, locals := 124 } G Z n0 [] (.int v) wd wt tk rn bo wd2 wt2 tk2 rn2 bo2 ∧ K6 l yX6_undo wsX6_undo { frames := 0, cells := 0, slots := 0, locals := 0 } G Z n0 [] (.int v) x (Inv9 wd2 wt2 tk2 rn2 bo2) := by
  have hR := hI.1
  have hJ := hI.2.1
  have hh1 : mI (mS x) := hJ.1
  have hh2 : mO (mS x) := hJ.2.1
  have hh3 : mW (mS x) := hJ.2.2.1
  have e := eq_undo hI
  refine ⟨(s_undo wd wt tk).1, (s_undo wd wt tk).2, wt, tk, rn, bo, met_am (c_X5_undo l G (adC n0) (ad5 n0) (td5 n0) wd wt tk (nI rn) bo (cN_new n0) hI.2.2.2.1), ?_⟩
  rw [e.1]
  exact met_wr (met_am (c_X6_undo l G (M6 n0) x hh1 hh2 (mN_6 n0))) (fun H h => h) (fun H h => ⟨_, h, e.2⟩) s_m1
set_option maxHeartbeats 1000000 in
theorem p_count (l : Launch) (G : GG) (Z : AM) (n0 : Nat) (hAZ : ∀ q : Nat, n0 ≤ q → Z.1 q) {wd wt : WT} {tk : Bool} {rn : Nat} {bo : Nat → Int32} {x : MT} (hI : Inv9 wd wt tk rn bo x) (v1 : Int32) : ∃ (v : Int32) (wd2 wt2 : WT) (tk2 : Bool) (rn2 : Nat) (bo2 : Nat → Int32), K5 l yX5_count wsX5_count { frames := 0, cells := 0, slots := 0, locals := 0 } G Z n0 [.int v1] (.int v) wd wt tk rn bo wd2 wt2 tk2 rn2 bo2 ∧ K6 l yX6_count wsX6_count { frames := 0, cells := 0, slots := 0, locals := 0 } G Z n0 [.int v1] (.int v) x (Inv9 wd2 wt2 tk2 rn2 bo2) := by
  have hR := hI.1
  have hJ := hI.2.1
  have hh1 : mI (mS x) := hJ.1
  have hh2 : mO (mS x) := hJ.2.1
  have hh3 : mW (mS x) := hJ.2.2.1
  have e : s_count wd (nI rn) v1 = r_count x v1 := by rw [← hI.2.2.2.2.2.2.1]; exact eq_count hR v1
  refine ⟨s_count wd (nI rn) v1, wd, wt, tk, rn, bo, met_ro (c_X5_count l G (adC n0) (ad5 n0) (td5 n0) wd wt tk (nI rn) bo v1) (fun H h => h), ?_⟩
  rw [e]
  exact met_ro (c_X6_count l G (M6 n0) x v1 hh1 hh2) (fun H h => ⟨x, h, hI⟩)

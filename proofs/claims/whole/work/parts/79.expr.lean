/-! an E is read alike by both: the steps, and that a stack bears them -/
def okS (f : Nat → Int32) : Nat → Nat → Nat → Nat → Prop
  | 0, _, d, e => d = e
  | n + 1, k, d, e => if f k < 0 then (if f k = -1 then 1 ≤ d ∧ okS f n (k + 1) d e else if f k ≤ -10 then d = 1 ∧ okS f n (k + 1) 0 e else 2 ≤ d ∧ okS f n (k + 1) (d - 1) e) else d ≤ 12 ∧ okS f n (k + 1) (d + 1) e
theorem okS_s (f : Nat → Int32) (n k d e : Nat) : okS f (n + 1) k d e = (if f k < 0 then (if f k = -1 then 1 ≤ d ∧ okS f n (k + 1) d e else if f k ≤ -10 then d = 1 ∧ okS f n (k + 1) 0 e else 2 ≤ d ∧ okS f n (k + 1) (d - 1) e) else d ≤ 12 ∧ okS f n (k + 1) (d + 1) e) := rfl
theorem okS_app (f : Nat → Int32) (n2 m e : Nat) : ∀ n k d : Nat, okS f n k d m → okS f n2 (k + n) m e → okS f (n + n2) k d e
  | 0, k, d, h, h2 => by
    have h : d = m := h
    subst h
    rw [Nat.zero_add]
    exact h2
  | n + 1, k, d, h, h2 => by
    have ih := fun d h => okS_app f n2 m e n (k + 1) d h (by rw [show k + 1 + n = k + (n + 1) by omega]; exact h2)
    rw [show n + 1 + n2 = n + n2 + 1 by omega]
    rw [okS_s] at h ⊢
    by_cases c1 : f k < 0
    · rw [if_pos c1] at h ⊢
      by_cases c2 : f k = -1
      · rw [if_pos c2] at h ⊢; exact ⟨h.1, ih _ h.2⟩
      · rw [if_neg c2] at h ⊢
        by_cases c3 : f k ≤ -10
        · rw [if_pos c3] at h ⊢; exact ⟨h.1, ih _ h.2⟩
        · rw [if_neg c3] at h ⊢; exact ⟨h.1, ih _ h.2⟩
    · rw [if_neg c1] at h ⊢; exact ⟨h.1, ih _ h.2⟩
theorem okS_cg {f g : Nat → Int32} (e : Nat) : ∀ n k d : Nat, (∀ j, k ≤ j → j < k + n → g j = f j) → okS f n k d e → okS g n k d e
  | 0, _, _, _, h => h
  | n + 1, k, d, hj, h => by
    have ih := fun d h => okS_cg e n (k + 1) d (fun j a b => hj j (by omega) (by omega)) h
    rw [okS_s] at h ⊢
    rw [hj k (Nat.le_refl _) (by omega)]
    by_cases c1 : f k < 0
    · rw [if_pos c1] at h ⊢
      by_cases c2 : f k = -1
      · rw [if_pos c2] at h ⊢; exact ⟨h.1, ih _ h.2⟩
      · rw [if_neg c2] at h ⊢
        by_cases c3 : f k ≤ -10
        · rw [if_pos c3] at h ⊢; exact ⟨h.1, ih _ h.2⟩
        · rw [if_neg c3] at h ⊢; exact ⟨h.1, ih _ h.2⟩
    · rw [if_neg c1] at h ⊢; exact ⟨h.1, ih _ h.2⟩
theorem okS_wf {s : Nat → Int32} {b : Nat} (e : Nat) : ∀ n k d : Nat, b + k + n ≤ 2000 → okS (fun i => s (b + i)) n k d e → wfGo s n (b + k) d
  | 0, _, _, _, _ => trivial
  | n + 1, k, d, hb, h => by
    have ih := fun d h => okS_wf (s := s) (b := b) e n (k + 1) d (by omega) h
    rw [okS_s] at h
    unfold wfGo
    rw [nI_clamp (by omega)]
    rw [show b + k + 1 = b + (k + 1) by omega]
    by_cases c1 : s (b + k) < 0
    · rw [if_pos c1] at h ⊢
      by_cases c2 : s (b + k) = -1
      · rw [if_pos c2] at h ⊢; exact ⟨h.1, ih _ h.2⟩
      · rw [if_neg c2] at h ⊢
        by_cases c3 : s (b + k) ≤ -10
        · rw [if_pos c3] at h ⊢; exact ⟨h.1, ih _ h.2⟩
        · rw [if_neg c3] at h ⊢; exact ⟨h.1, ih _ h.2⟩
    · rw [if_neg c1] at h ⊢; exact ⟨h.1, ih _ h.2⟩
/-- where both stand: the tape, the steps so far -/
def pr9 (sz an : Nat) (bt : Nat → Int32) (x : LawT) (sv : Nat → Int32) (c : Nat) : Prop := tpR sz bt sv ∧ lSc x = c ∧ sv (786 + an) = nI c ∧ ∀ i, i < c → enc (lSt x i) (sv (794 + 140 * an + i))
def stp (an : Nat) (sv : Nat → Int32) : Nat → Int32 := fun i => sv (794 + 140 * an + i)
/-- steps read: how many, that they come from as many signs, what a stack does under them -/
def suc9 (sz an : Nat) (bt : Nat → Int32) (c0 a b pl : Nat) (x : LawT) (sv : Nat → Int32) (c p2 : Nat) (x2 : LawT) (sv2 : Nat → Int32) : Prop := ∃ c2 : Nat, c ≤ c2 ∧ c2 + pl ≤ p2 + c ∧ pr9 sz an bt x2 sv2 c2 ∧ x2 = lSetSt x (lSt x2) (lSc x2) ∧ (∀ i, i < c → stp an sv2 i = stp an sv i) ∧ ∀ d, d + c0 ≤ 12 → okS (stp an sv2) (c2 - c) c (d + a) (d + b)
def res9 (sz an : Nat) (bt : Nat → Int32) (c0 a b pl : Nat) (x : LawT) (sv : Nat → Int32) (c : Nat) (r : Bool × Nat × LawT) (q : Nat × Bool × (Nat → Int32)) : Prop := q.1 = r.2.1 ∧ q.2.1 = !r.1 ∧ pl ≤ r.2.1 ∧ r.2.1 ≤ sz ∧ fr9 an sv q.2.2 ∧ (mI sv → mI q.2.2) ∧ (r.1 = true → suc9 sz an bt c0 a b pl x sv c r.2.1 r.2.2 q.2.2)
def sim9 (sz an : Nat) (bt : Nat → Int32) (c0 : Nat) (P : PF) (Q : PF6) : Prop := ∀ (pl : Nat) (x : LawT) (sv : Nat → Int32) (c : Nat), pl ≤ sz → pr9 sz an bt x sv c → c ≤ pl → res9 sz an bt c0 0 1 pl x sv c (P pl x) (Q pl false sv)
/-- a step more -/
theorem emit9 {sz an : Nat} {bt : Nat → Int32} {x : LawT} {sv : Nat → Int32} {c : Nat} (h : pr9 sz an bt x sv c) (han : an < 8) (hs : sz ≤ 120) (hc : c < 120) {a v : Int32} (he : enc a v) (hv : ib (-12) 33000 v) : pr9 sz an bt (g_addStep x a) (r_emits an sz v false sv) (c + 1) ∧ g_addStep x a = lSetSt x (lSt (g_addStep x a)) (lSc (g_addStep x a)) ∧ fr9 an sv (r_emits an sz v false sv) ∧ (mI sv → mI (r_emits an sz v false sv)) ∧ (∀ i, i < c → stp an (r_emits an sz v false sv) i = stp an sv i) ∧ stp an (r_emits an sz v false sv) c = v := by
  obtain ⟨h1, h2, h3, h4⟩ := h
  have e1 : (786 + nI an : Int32).toNatClampNeg = 786 + an := cell_at (b := 786) han (by decide)
  have e2 : ((794 + (140 * (nI an))) + nI c : Int32).toNatClampNeg = 794 + 140 * an + c := cl3 (a := 794) (b := 140) (by omega)
  have er : r_emits an sz v false sv = upd (upd sv (794 + 140 * an + c) v) (786 + an) (nI (c + 1)) := by
    unfold r_emits
    rw [if_neg (by decide), e1, h3, e2, pk_un (by omega), h3, nI_1]
  have eg : g_addStep x a = lSetSt x (upd (lSt x) c a) (c + 1) := by
    unfold g_addStep
    rw [h2, if_neg (show ¬ (120 : Int32) ≤ nI c from nI_ge (b := 120) hc (by decide)), nI_clamp (by omega)]
  rw [er, eg]
  have n1 : ∀ j, j ≠ 786 + an → upd (upd sv (794 + 140 * an + c) v) (786 + an) (nI (c + 1)) j = upd sv (794 + 140 * an + c) v j := fun j z => pk_un z
  refine ⟨⟨fun i hi => ?_, rfl, pk_us, fun i hi => ?_⟩, rfl, fun j a b => ?_, fun hI => ?_, fun i hi => ?_, ?_⟩
  · rw [n1 _ (by omega), pk_un (by omega)]
    exact h1 i hi
  · rw [n1 _ (by omega)]
    show enc (upd (lSt x) c a i) _
    by_cases q : i = c
    · subst q; rw [pk_us, pk_us]; exact he
    · rw [pk_un q, pk_un (by omega)]
      exact h4 i (by omega)
  · rw [n1 _ a, pk_un (by omega)]
  · exact (hI.putR (lo := 794) (hi := 1913) (x := -12) (y := 33000) (by decide) (by omega) (by omega) hv).putR (lo := 786) (hi := 793) (x := 0) (y := 120) (by decide) (by omega) (by omega) (ib_lit (by omega) (by omega) (by omega))
  · show upd (upd sv (794 + 140 * an + c) v) (786 + an) (nI (c + 1)) (794 + 140 * an + i) = _
    rw [n1 _ (by omega), pk_un (by omega)]
    rfl
  · show upd (upd sv (794 + 140 * an + c) v) (786 + an) (nI (c + 1)) (794 + 140 * an + c) = _
    rw [n1 _ (by omega)]
    exact pk_us
/-- what was read, and a step behind it -/
theorem suc9.emit {sz an : Nat} {bt : Nat → Int32} {c0 a b b2 pl : Nat} {x : LawT} {sv : Nat → Int32} {c p2 : Nat} {x2 : LawT} {sv2 : Nat → Int32} {pl0 : Nat} (h : suc9 sz an bt c0 a b pl x sv c p2 x2 sv2) (han : an < 8) (hs : sz ≤ 120) (hp2 : p2 ≤ sz) (hcp : c ≤ pl0) (hp0 : pl0 + 1 ≤ pl) {w v : Int32} (he : enc w v) (hv : ib (-12) 33000 v) (hk : ∀ (f : Nat → Int32) (k d : Nat), f k = v → d + c0 ≤ 12 → okS f 1 k (d + b) (d + b2)) : fr9 an sv2 (r_emits an sz v false sv2) ∧ (mI sv2 → mI (r_emits an sz v false sv2)) ∧ suc9 sz an bt c0 a b2 pl0 x sv c p2 (g_addStep x2 w) (r_emits an sz v false sv2) := by
  obtain ⟨c2, k1, k2, k3, k4, k5, k6⟩ := h
  obtain ⟨g1, g2, g3, g4, g5, g6⟩ := emit9 k3 han hs (show c2 < 120 by omega) he hv
  refine ⟨g3, g4, c2 + 1, by omega, by omega, g1, ?_, fun i hi => (g5 i (by omega)).trans (k5 i hi), fun d hd => ?_⟩
  · rw [g2, k4]
  · rw [show c2 + 1 - c = (c2 - c) + 1 by omega]
    refine okS_app _ 1 (d + b) (d + b2) (c2 - c) c (d + a) (okS_cg _ _ _ _ (fun j a9 b9 => g5 j (by omega)) (k6 d hd)) ?_
    rw [show c + (c2 - c) = c2 by omega]
    exact hk _ _ _ g6 hd
theorem enc_m1 : enc (-3) (-1) := .inr (.inr (.inr (.inl ⟨rfl, rfl⟩)))
theorem enc_m2 : enc (-1) (-2) := .inr (.inl ⟨rfl, rfl⟩)
theorem enc_m3 : enc (-2) (-3) := .inr (.inr (.inl ⟨rfl, rfl⟩))
theorem ib_m {v : Int32} (h1 : -12 ≤ v.toInt) (h2 : v.toInt ≤ 33000) : ib (-12) 33000 v := ⟨h1, h2⟩
theorem ok_not {f : Nat → Int32} {k d b : Nat} (h : f k = -1) (hb : 1 ≤ d + b) : okS f 1 k (d + b) (d + b) := by
  rw [okS_s, h, if_pos (by decide), if_pos rfl]
  exact ⟨hb, rfl⟩
theorem ok_two {f : Nat → Int32} {k d : Nat} {v : Int32} (h : f k = v) (hv : v = -2 ∨ v = -3) : okS f 1 k (d + 2) (d + 1) := by
  rw [okS_s, h]
  rcases hv with rfl | rfl
  · rw [if_pos (by decide), if_neg (by decide), if_neg (by decide)]; exact ⟨by omega, by show d + 2 - 1 = d + 1; omega⟩
  · rw [if_pos (by decide), if_neg (by decide), if_neg (by decide)]; exact ⟨by omega, by show d + 2 - 1 = d + 1; omega⟩
theorem ok_test {f : Nat → Int32} {k d n : Nat} (h : f k = nI n) (hn : n < 2 ^ 31) (hd : d ≤ 12) : okS f 1 k d (d + 1) := by
  rw [okS_s, h, if_neg (nI_pos hn)]
  exact ⟨hd, rfl⟩
/-- what was read goes on -/
theorem suc9.tr {sz an : Nat} {bt : Nat → Int32} {c0 c1 a b b2 pl p1 p2 : Nat} {x x1 x2 : LawT} {sv sv1 sv2 : Nat → Int32} {c : Nat} {k : Nat} (h : suc9 sz an bt c0 a b pl x sv c p1 x1 sv1) (h2 : ∀ cc, pr9 sz an bt x1 sv1 cc → cc + pl ≤ p1 + c → suc9 sz an bt c1 (b + k) (b2 + k) p1 x1 sv1 cc p2 x2 sv2) (hb : k = 0 ∧ c1 ≤ c0) : suc9 sz an bt c0 a b2 pl x sv c p2 x2 sv2 := by
  obtain ⟨c2, k1, k2, k3, k4, k5, k6⟩ := h
  obtain ⟨c3, m1, m2, m3, m4, m5, m6⟩ := h2 c2 k3 k2
  obtain ⟨rfl, hb⟩ := hb
  refine ⟨c3, by omega, by omega, m3, ?_, fun i hi => (m5 i (by omega)).trans (k5 i hi), fun d hd => ?_⟩
  · rw [m4, k4]
  · rw [show c3 - c = (c2 - c) + (c3 - c2) by omega]
    refine okS_app _ _ (d + b) (d + b2) (c2 - c) c (d + a) (okS_cg _ _ _ _ (fun j a9 b9 => m5 j (by omega)) (k6 d hd)) ?_
    rw [show c + (c2 - c) = c2 by omega]
    exact m6 d (by omega)
/-- a test -/
theorem atom_sim {sz an : Nat} {bt : Nat → Int32} (han : an < 8) (hs : sz ≤ 120) {c0 : Nat} {pl : Nat} {x : LawT} {sv : Nat → Int32} {c : Nat} (hp : pl ≤ sz) (h : pr9 sz an bt x sv c) (hc : c ≤ pl) : res9 sz an bt c0 0 1 pl x sv c (q_partZ sz bt pl x) (r_atom an sz pl sv) := by
  have ht := h.1
  unfold q_partZ r_atom
  rw [one_q hs hp ht, among_q, show ix 13 (r_here sz pl sv) = ix 6 (r_here sz pl sv) from rfl]
  rcases ix_in 6 (r_here sz pl sv) with e | ⟨w, hw, e, hne⟩
  · rw [e, if_pos (show (-1 : Int32) < 0 by decide), if_pos rfl]
    dsimp only
    rw [if_neg (show ¬ (0 : Int32) ≤ -1 by decide), if_pos rfl]
    exact ⟨rfl, rfl, Nat.le_refl _, hp, fr9.rf, id, fun z => by cases z⟩
  · have hw : w < 7 := hw
    have p1 : pl + 1 ≤ sz := here_up hs hp ht hne rfl
    rw [e, if_neg (show ¬ nI w < 0 from nI_pos (by omega)), if_neg (nIm9 (by omega))]
    dsimp only
    rw [if_pos (show 0 ≤ nI w from nI_pos' (by omega)), if_neg (nIm9 (by omega)), one_q hs p1 ht, among_q, show ix 14 (r_here sz (pl + 1) sv) = ix 7 (r_here sz (pl + 1) sv) from rfl]
    rcases ix_in 7 (r_here sz (pl + 1) sv) with e2 | ⟨v, hv, e2, hne2⟩
    · rw [e2, if_pos (show (-1 : Int32) < 0 by decide), if_pos rfl]
      dsimp only
      rw [if_neg (show ¬ (0 : Int32) ≤ -1 by decide), if_pos rfl]
      exact ⟨rfl, rfl, by show pl ≤ pl + 1; omega, p1, fr9.rf, id, fun z => by cases z⟩
    · have hv : v < 3 := hv
      have p2 : pl + 1 + 1 ≤ sz := here_up hs p1 ht hne2 rfl
      rw [e2, if_neg (show ¬ nI v < 0 from nI_pos (by omega)), if_neg (nIm9 (by omega))]
      dsimp only
      rw [if_pos (show 0 ≤ nI v from nI_pos' (by omega)), if_neg (nIm9 (by omega))]
      rcases num_q (an := an) hs p2 ht with ⟨n, p, n9, pp, p3, q1, q2⟩ | ⟨q1, q2⟩
      · rw [q1, q2]
        dsimp only
        rw [if_neg (show ¬ nI n < 0 from nI_pos (by omega))]
        have ea : nI w * 3000 + nI v * 1000 + nI n = nI (w * 3000 + v * 1000 + n) := by rw [show (3000 : Int32) = nI 3000 from rfl, show (1000 : Int32) = nI 1000 from rfl, pk_mul, pk_mul, nI_add, nI_add]
        have eb : nI w + 8 * nI v + 32 * nI n = nI (w + 8 * v + 32 * n) := by rw [show (8 : Int32) = nI 8 from rfl, show (32 : Int32) = nI 32 from rfl, pk_mul, pk_mul, nI_add, nI_add]
        rw [ea, eb]
        obtain ⟨g1, g2, g3, g4, g5, g6⟩ := emit9 h han hs (show c < 120 by omega) (a := nI (w * 3000 + v * 1000 + n)) (v := nI (w + 8 * v + 32 * n)) (.inl ⟨w, v, n, hw, hv, n9, rfl, rfl⟩) (ib_lit (by omega) (by omega) (by omega))
        refine ⟨rfl, rfl, by show pl ≤ p; omega, p3, g3, g4, fun _ => ⟨c + 1, by omega, by show c + 1 + pl ≤ p + c; omega, g1, g2, g5, fun d hd => ?_⟩⟩
        rw [show c + 1 - c = 1 by omega]
        exact ok_test g6 (by omega) (by omega)
      · rw [q1, q2]
        dsimp only
        rw [if_pos (show (-1 : Int32) < 0 by decide)]
        exact ⟨rfl, rfl, by show pl ≤ pl + 1 + 1; omega, p2, fr9.rf, id, fun z => by cases z⟩
theorem partZ_sim {sz an : Nat} {bt : Nat → Int32} (han : an < 8) (hs : sz ≤ 120) : sim9 sz an bt 0 (q_partZ sz bt) (r_factorZ an sz) := by
  intro pl x sv c hp h hc
  have key : r_factorZ an sz pl false sv = if r_here sz pl sv = 33 then (pl, true, sv) else if r_here sz pl sv = 40 then (pl, true, sv) else r_atom an sz pl sv := by
    unfold r_factorZ r_atom
    rw [if_neg (show ¬ (false = true) by decide)]
  have no : ∀ g : Int32, ix 6 g = -1 → r_here sz pl sv = g → res9 sz an bt 0 0 1 pl x sv c (q_partZ sz bt pl x) (pl, true, sv) := by
    intro g hg e
    unfold q_partZ
    rw [one_q hs hp h.1, e, hg, if_pos (show (-1 : Int32) < 0 by decide)]
    dsimp only
    rw [if_neg (show ¬ (0 : Int32) ≤ -1 by decide)]
    exact ⟨rfl, rfl, Nat.le_refl _, hp, fr9.rf, id, fun z => by cases z⟩
  rw [key]
  by_cases q : r_here sz pl sv = 33
  · rw [if_pos q]; exact no 33 (by decide) q
  · rw [if_neg q]
    by_cases q2 : r_here sz pl sv = 40
    · rw [if_pos q2]; exact no 40 (by decide) q2
    · rw [if_neg q2]; exact atom_sim han hs hp h hc
theorem partS_atom {sz : Nat} {bt : Nat → Int32} {P E : PF} {pl : Nat} {x : LawT} (h1 : q_take sz bt 33 pl = (false, pl)) (h2 : q_take sz bt 40 pl = (false, pl)) : q_partS sz bt P E pl x = q_partZ sz bt pl x := by
  unfold q_partS q_partZ
  rw [h1]
  dsimp only
  rw [if_neg (by decide), h2]
  dsimp only
  rw [if_neg (by decide)]
theorem partS_sim {sz an : Nat} {bt : Nat → Int32} (han : an < 8) (hs : sz ≤ 120) {cP cE c0 : Nat} {P E : PF} {Q F : PF6} (hP : sim9 sz an bt cP P Q) (hE : sim9 sz an bt cE E F) (h1 : cP ≤ c0) (h2 : cE ≤ c0) : sim9 sz an bt c0 (q_partS sz bt P E) (r_factorS an sz Q F) := by
  intro pl x sv c hp h hc
  rw [factorS_eq, if_neg (show ¬ (false = true) by decide)]
  have t33 := take_q (g := 33) hs hp h.1 (by decide)
  have t40 := take_q (g := 40) hs hp h.1 (by decide)
  by_cases q : r_here sz pl sv = 33
  · have p1 : pl + 1 ≤ sz := here_up hs hp h.1 (by decide) q
    rw [if_pos q] at t33 ⊢
    unfold q_partS r_not
    rw [t33]
    dsimp only
    rw [if_pos rfl]
    have hr := hP (pl + 1) x sv c p1 h (by omega)
    generalize P (pl + 1) x = r at hr ⊢
    generalize Q (pl + 1) false sv = y at hr ⊢
    obtain ⟨b, p2, x2⟩ := r
    obtain ⟨s2, w2, sv2⟩ := y
    obtain ⟨r1, r2, r3, r4, r5, r6, r7⟩ := hr
    dsimp only at r1 r2 r3 r4 r5 r6 r7
    subst r1 r2
    cases b with
    | false => exact ⟨rfl, rfl, by show pl ≤ s2; omega, r4, r5, r6, fun z => by cases z⟩
    | true =>
      have e := (r7 rfl).emit (b2 := 1) (pl0 := pl) han hs r4 hc (by omega) enc_m1 (by exact ib_m (by decide) (by decide)) (fun f k d e _ => ok_not e (by omega))
      obtain ⟨g1, g2, c2, k1, k2, k3, k4, k5, k6⟩ := e
      exact ⟨rfl, rfl, by show pl ≤ s2; omega, r4, r5.tr g1, fun z => g2 (r6 z), fun _ => ⟨c2, k1, k2, k3, k4, k5, fun d hd => k6 d (by omega)⟩⟩
  · rw [if_neg q] at t33 ⊢
    by_cases q2 : r_here sz pl sv = 40
    · have p1 : pl + 1 ≤ sz := here_up hs hp h.1 (by decide) q2
      rw [if_pos q2] at t40 ⊢
      unfold q_partS r_open
      rw [t33]
      dsimp only
      rw [if_neg (by decide), t40]
      dsimp only
      rw [if_pos rfl]
      have hr := hE (pl + 1) x sv c p1 h (by omega)
      generalize E (pl + 1) x = r at hr ⊢
      generalize F (pl + 1) false sv = y at hr ⊢
      obtain ⟨b, p2, x2⟩ := r
      obtain ⟨s2, w2, sv2⟩ := y
      obtain ⟨r1, r2, r3, r4, r5, r6, r7⟩ := hr
      dsimp only at r1 r2 r3 r4 r5 r6 r7
      subst r1 r2
      cases b with
      | false =>
        dsimp only
        rw [if_neg (by decide), show (!false) = true from rfl, must_w]
        exact ⟨rfl, rfl, by show pl ≤ s2; omega, r4, r5, r6, fun z => by cases z⟩
      | true =>
        obtain ⟨c2, k1, k2, k3, k4, k5, k6⟩ := r7 rfl
        dsimp only
        rw [if_pos rfl, show (!true) = false from rfl, must_q, take_q (g := 41) hs r4 k3.1 (by decide)]
        by_cases q3 : r_here sz s2 sv2 = 41
        · have p3 : s2 + 1 ≤ sz := here_up hs r4 k3.1 (by decide) q3
          rw [if_pos q3, if_pos q3]
          exact ⟨rfl, rfl, by show pl ≤ s2 + 1; omega, p3, r5, r6, fun _ => ⟨c2, k1, by show c2 + pl ≤ s2 + 1 + c; omega, k3, k4, k5, fun d hd => k6 d (by omega)⟩⟩
        · rw [if_neg q3, if_neg q3]
          exact ⟨rfl, rfl, by show pl ≤ s2; omega, r4, r5, r6, fun z => by cases z⟩
    · rw [if_neg q2] at t40 ⊢
      rw [partS_atom t33 t40]
      exact atom_sim han hs hp h hc
/-- T's and E's rest -/
theorem bothGo_sim {sz an : Nat} {bt : Nat → Int32} (han : an < 8) (hs : sz ≤ 120) {cP c0 : Nat} {P : PF} {Q : PF6} (hP : sim9 sz an bt cP P Q) (h1 : cP + 1 ≤ c0) : ∀ (n k pl : Nat) (x : LawT) (sv : Nat → Int32) (c : Nat), sz ≤ n + pl → pl ≤ sz → pr9 sz an bt x sv c → c ≤ pl → res9 sz an bt c0 1 1 pl x sv c (q_bothGo sz bt P n k pl x) (r_everyGo an sz Q (n + 1) pl false sv)
  | 0, k, pl, x, sv, c, hn, hp, h, hc => by
    rw [r_everyGo_s, if_neg (by decide)]
    have : ¬ r_here sz pl sv = 38 := fun e => by have := here_up hs hp h.1 (by decide) e; omega
    rw [if_neg this]
    exact ⟨rfl, rfl, Nat.le_refl _, hp, fr9.rf, id, fun _ => ⟨c, Nat.le_refl _, by show c + pl ≤ pl + c; omega, h, rfl, fun _ _ => rfl, fun d _ => by rw [Nat.sub_self]; rfl⟩⟩
  | n + 1, k, pl, x, sv, c, hn, hp, h, hc => by
    have t := take_q (g := 38) hs hp h.1 (by decide)
    rw [r_everyGo_s, if_neg (by decide)]
    unfold q_bothGo
    rw [t]
    by_cases q : r_here sz pl sv = 38
    · have p1 : pl + 1 ≤ sz := here_up hs hp h.1 (by decide) q
      rw [if_pos q, if_pos q]
      dsimp only
      rw [if_pos rfl]
      have hr := hP (pl + 1) x sv c p1 h (by omega)
      generalize P (pl + 1) x = r at hr ⊢
      generalize Q (pl + 1) false sv = y at hr ⊢
      obtain ⟨b, p2, x2⟩ := r
      obtain ⟨s2, w2, sv2⟩ := y
      obtain ⟨r1, r2, r3, r4, r5, r6, r7⟩ := hr
      dsimp only at r1 r2 r3 r4 r5 r6 r7
      subst r1 r2
      cases b with
      | false =>
        dsimp only
        rw [if_neg (by decide), show (!false) = true from rfl, emits_w, everyGo_w]
        exact ⟨rfl, rfl, by show pl ≤ s2; omega, r4, r5, r6, fun z => by cases z⟩
      | true =>
        dsimp only
        rw [if_pos rfl, show (!true) = false from rfl]
        obtain ⟨c1, j1, j2, j3, j4, j5, j6⟩ := r7 rfl
        have e : suc9 sz an bt c0 1 2 (pl + 1) x sv c s2 x2 sv2 := ⟨c1, j1, j2, j3, j4, j5, fun d hd => by
          have := j6 (d + 1) (by omega)
          exact this⟩
        obtain ⟨g1, g2, g3⟩ := e.emit (b2 := 1) (pl0 := pl) han hs r4 hc (Nat.le_refl _) enc_m2 (ib_m (by decide) (by decide)) (fun f k d e _ => ok_two e (.inl rfl))
        obtain ⟨c2, k1, k2, k3, k4, k5, k6⟩ := g3
        obtain ⟨m1, m2, m3, m4, m5, m6, m7⟩ := bothGo_sim han hs hP h1 n (k + 1) s2 (g_addStep x2 (-1)) (r_emits an sz (-2) false sv2) c2 (by omega) r4 k3 (by omega)
        refine ⟨m1, m2, by omega, m4, (r5.tr g1).tr m5, fun z => m6 (g2 (r6 z)), fun z => ?_⟩
        exact suc9.tr (c1 := c0) (k := 0) (b2 := 1) ⟨c2, k1, k2, k3, k4, k5, k6⟩ (fun cc hcc _ => by
          have : cc = c2 := by rw [← hcc.2.1]; exact k3.2.1
          subst this
          exact m7 z) ⟨rfl, Nat.le_refl _⟩
    · rw [if_neg q, if_neg q]
      dsimp only
      rw [if_neg (by decide)]
      exact ⟨rfl, rfl, Nat.le_refl _, hp, fr9.rf, id, fun _ => ⟨c, Nat.le_refl _, by show c + pl ≤ pl + c; omega, h, rfl, fun _ _ => rfl, fun d _ => by rw [Nat.sub_self]; rfl⟩⟩
theorem both_sim {sz an : Nat} {bt : Nat → Int32} (han : an < 8) (hs : sz ≤ 120) {cP c0 : Nat} {P : PF} {Q : PF6} (hP : sim9 sz an bt cP P Q) (h1 : cP + 1 ≤ c0) : sim9 sz an bt c0 (q_both sz bt P) (r_every an sz Q) := by
  intro pl x sv c hp h hc
  unfold q_both r_every
  have hr := hP pl x sv c hp h hc
  generalize P pl x = r at hr ⊢
  generalize Q pl false sv = y at hr ⊢
  obtain ⟨b, p2, x2⟩ := r
  obtain ⟨s2, w2, sv2⟩ := y
  obtain ⟨r1, r2, r3, r4, r5, r6, r7⟩ := hr
  dsimp only at r1 r2 r3 r4 r5 r6 r7
  subst r1 r2
  cases b with
  | false =>
    dsimp only
    rw [if_neg (by decide), show (!false) = true from rfl, everyGo_w]
    exact ⟨rfl, rfl, r3, r4, r5, r6, fun z => by cases z⟩
  | true =>
    dsimp only
    rw [if_pos rfl, show (!true) = false from rfl]
    obtain ⟨c1, j1, j2, j3, j4, j5, j6⟩ := r7 rfl
    obtain ⟨m1, m2, m3, m4, m5, m6, m7⟩ := bothGo_sim han hs hP h1 120 0 s2 x2 sv2 c1 (by omega) r4 j3 (by omega)
    refine ⟨m1, m2, by omega, m4, r5.tr m5, fun z => m6 (r6 z), fun z => ?_⟩
    have e : suc9 sz an bt c0 0 1 pl x sv c s2 x2 sv2 := ⟨c1, j1, j2, j3, j4, j5, fun d hd => j6 d (by omega)⟩
    exact suc9.tr (c1 := c0) (k := 0) (b2 := 1) e (fun cc hcc _ => by
      have : cc = c1 := by rw [← hcc.2.1]; exact j3.2.1
      subst this
      exact m7 z) ⟨rfl, Nat.le_refl _⟩
theorem eithGo_sim {sz an : Nat} {bt : Nat → Int32} (han : an < 8) (hs : sz ≤ 120) {cP c0 : Nat} {P : PF} {Q : PF6} (hP : sim9 sz an bt cP P Q) (h1 : cP + 1 ≤ c0) : ∀ (n k pl : Nat) (x : LawT) (sv : Nat → Int32) (c : Nat), sz ≤ n + pl → pl ≤ sz → pr9 sz an bt x sv c → c ≤ pl → res9 sz an bt c0 1 1 pl x sv c (q_eithGo sz bt P n k pl x) (r_someGo an sz Q (n + 1) pl false sv)
  | 0, k, pl, x, sv, c, hn, hp, h, hc => by
    rw [r_someGo_s, if_neg (by decide)]
    have : ¬ r_here sz pl sv = 124 := fun e => by have := here_up hs hp h.1 (by decide) e; omega
    rw [if_neg this]
    exact ⟨rfl, rfl, Nat.le_refl _, hp, fr9.rf, id, fun _ => ⟨c, Nat.le_refl _, by show c + pl ≤ pl + c; omega, h, rfl, fun _ _ => rfl, fun d _ => by rw [Nat.sub_self]; rfl⟩⟩
  | n + 1, k, pl, x, sv, c, hn, hp, h, hc => by
    have t := take_q (g := 124) hs hp h.1 (by decide)
    rw [r_someGo_s, if_neg (by decide)]
    unfold q_eithGo
    rw [t]
    by_cases q : r_here sz pl sv = 124
    · have p1 : pl + 1 ≤ sz := here_up hs hp h.1 (by decide) q
      rw [if_pos q, if_pos q]
      dsimp only
      rw [if_pos rfl]
      have hr := hP (pl + 1) x sv c p1 h (by omega)
      generalize P (pl + 1) x = r at hr ⊢
      generalize Q (pl + 1) false sv = y at hr ⊢
      obtain ⟨b, p2, x2⟩ := r
      obtain ⟨s2, w2, sv2⟩ := y
      obtain ⟨r1, r2, r3, r4, r5, r6, r7⟩ := hr
      dsimp only at r1 r2 r3 r4 r5 r6 r7
      subst r1 r2
      cases b with
      | false =>
        dsimp only
        rw [if_neg (by decide), show (!false) = true from rfl, emits_w, someGo_w]
        exact ⟨rfl, rfl, by show pl ≤ s2; omega, r4, r5, r6, fun z => by cases z⟩
      | true =>
        dsimp only
        rw [if_pos rfl, show (!true) = false from rfl]
        obtain ⟨c1, j1, j2, j3, j4, j5, j6⟩ := r7 rfl
        have e : suc9 sz an bt c0 1 2 (pl + 1) x sv c s2 x2 sv2 := ⟨c1, j1, j2, j3, j4, j5, fun d hd => by
          have := j6 (d + 1) (by omega)
          exact this⟩
        obtain ⟨g1, g2, g3⟩ := e.emit (b2 := 1) (pl0 := pl) han hs r4 hc (Nat.le_refl _) enc_m3 (ib_m (by decide) (by decide)) (fun f k d e _ => ok_two e (.inr rfl))
        obtain ⟨c2, k1, k2, k3, k4, k5, k6⟩ := g3
        obtain ⟨m1, m2, m3, m4, m5, m6, m7⟩ := eithGo_sim han hs hP h1 n (k + 1) s2 (g_addStep x2 (-2)) (r_emits an sz (-3) false sv2) c2 (by omega) r4 k3 (by omega)
        refine ⟨m1, m2, by omega, m4, (r5.tr g1).tr m5, fun z => m6 (g2 (r6 z)), fun z => ?_⟩
        exact suc9.tr (c1 := c0) (k := 0) (b2 := 1) ⟨c2, k1, k2, k3, k4, k5, k6⟩ (fun cc hcc _ => by
          have : cc = c2 := by rw [← hcc.2.1]; exact k3.2.1
          subst this
          exact m7 z) ⟨rfl, Nat.le_refl _⟩
    · rw [if_neg q, if_neg q]
      dsimp only
      rw [if_neg (by decide)]
      exact ⟨rfl, rfl, Nat.le_refl _, hp, fr9.rf, id, fun _ => ⟨c, Nat.le_refl _, by show c + pl ≤ pl + c; omega, h, rfl, fun _ _ => rfl, fun d _ => by rw [Nat.sub_self]; rfl⟩⟩
theorem either_sim {sz an : Nat} {bt : Nat → Int32} (han : an < 8) (hs : sz ≤ 120) {cP c0 : Nat} {P : PF} {Q : PF6} (hP : sim9 sz an bt cP P Q) (h1 : cP + 1 ≤ c0) : sim9 sz an bt c0 (q_either sz bt P) (r_some an sz Q) := by
  intro pl x sv c hp h hc
  unfold q_either r_some
  have hr := hP pl x sv c hp h hc
  generalize P pl x = r at hr ⊢
  generalize Q pl false sv = y at hr ⊢
  obtain ⟨b, p2, x2⟩ := r
  obtain ⟨s2, w2, sv2⟩ := y
  obtain ⟨r1, r2, r3, r4, r5, r6, r7⟩ := hr
  dsimp only at r1 r2 r3 r4 r5 r6 r7
  subst r1 r2
  cases b with
  | false =>
    dsimp only
    rw [if_neg (by decide), show (!false) = true from rfl, someGo_w]
    exact ⟨rfl, rfl, r3, r4, r5, r6, fun z => by cases z⟩
  | true =>
    dsimp only
    rw [if_pos rfl, show (!true) = false from rfl]
    obtain ⟨c1, j1, j2, j3, j4, j5, j6⟩ := r7 rfl
    obtain ⟨m1, m2, m3, m4, m5, m6, m7⟩ := eithGo_sim han hs hP h1 120 0 s2 x2 sv2 c1 (by omega) r4 j3 (by omega)
    refine ⟨m1, m2, by omega, m4, r5.tr m5, fun z => m6 (r6 z), fun z => ?_⟩
    have e : suc9 sz an bt c0 0 1 pl x sv c s2 x2 sv2 := ⟨c1, j1, j2, j3, j4, j5, fun d hd => j6 d (by omega)⟩
    exact suc9.tr (c1 := c0) (k := 0) (b2 := 1) e (fun cc hcc _ => by
      have : cc = c1 := by rw [← hcc.2.1]; exact j3.2.1
      subst this
      exact m7 z) ⟨rfl, Nat.le_refl _⟩
theorem part_sim {sz an : Nat} {bt : Nat → Int32} (han : an < 8) (hs : sz ≤ 120) : ∀ d : Nat, sim9 sz an bt (2 * d) (q_part sz bt d) (r_fac an sz d)
  | 0 => partZ_sim han hs
  | d + 1 => by
    have ih := part_sim (bt := bt) han hs d
    have hE := either_sim han hs (both_sim han hs ih (c0 := 2 * d + 1) (Nat.le_refl _)) (c0 := 2 * (d + 1)) (by omega)
    exact partS_sim han hs ih hE (by omega) (Nat.le_refl _)
theorem eith_sim {sz an : Nat} {bt : Nat → Int32} (han : an < 8) (hs : sz ≤ 120) : sim9 sz an bt 12 (q_eith sz bt 5) (r_som an sz 5) := either_sim han hs (both_sim han hs (part_sim han hs 5) (c0 := 11) (by decide)) (by decide)

/-! a clause is read alike by both -/
def pc9 (sz an : Nat) (bt : Nat → Int32) (x : LawT) (sv : Nat → Int32) (c m : Nat) : Prop := pr9 sz an bt x sv c ∧ lSlip x = sv (498 + an) ∧ (∀ k, k < 4 → lFrom x k = sv (506 + 4 * an + k)) ∧ (sv (538 + an) = nI (lOv x).1 ∧ (lOv x).1 ≤ m) ∧ (∀ i, i < (lOv x).1 → ∀ j, j < 3 → (lOv x).2 (3 * i + j) = sv (546 + 3 * (10 * an + i) + j)) ∧ okS (stp an sv) c 0 0 0
def cre9 (sz an : Nat) (bt : Nat → Int32) (m pl : Nat) (sv : Nat → Int32) (r : Bool × Nat × LawT) (q : Nat × Bool × (Nat → Int32)) : Prop := q.1 = r.2.1 ∧ q.2.1 = !r.1 ∧ pl ≤ r.2.1 ∧ r.2.1 ≤ sz ∧ (∀ j, ¬ lr9 an j → q.2.2 j = sv j) ∧ (mI sv → mI q.2.2) ∧ (mO sv → mO q.2.2) ∧ (r.1 = true → ∃ c2 : Nat, c2 ≤ r.2.1 ∧ pc9 sz an bt r.2.2 q.2.2 c2 (m + 1))
theorem cre9.no {sz an : Nat} {bt : Nat → Int32} {m pl : Nat} {sv : Nat → Int32} {p : Nat} {x : LawT} (h1 : pl ≤ p) (h2 : p ≤ sz) : cre9 sz an bt m pl sv (false, p, x) (p, true, sv) := ⟨rfl, rfl, h1, h2, fun _ _ => rfl, id, id, fun z => by cases z⟩
theorem mO.cg {s s2 : Nat → Int32} (h : mO s) (hs : ∀ j, 546 ≤ j → j < 786 → s2 j = s j) : mO s2 := fun i hi => by
  have := h i hi
  rw [hs _ (by omega) (by omega), hs _ (by omega) (by omega)]
  exact this
theorem figure_w (an en : Nat) (hi : Int32) (sp : Nat) (sv : Nat → Int32) : r_figure an en hi sp true sv = (0, sp, true) := by
  unfold r_figure
  simp
theorem cre9.ok {sz an : Nat} {bt : Nat → Int32} {m pl : Nat} {sv : Nat → Int32} {p : Nat} {x2 : LawT} {sv2 : Nat → Int32} (c2 : Nat) (h1 : pl ≤ p) (h2 : p ≤ sz) (h3 : ∀ j, ¬ lr9 an j → sv2 j = sv j) (h4 : mI sv → mI sv2) (h5 : mO sv → mO sv2) (h6 : c2 ≤ p) (h7 : pc9 sz an bt x2 sv2 c2 (m + 1)) : cre9 sz an bt m pl sv (true, p, x2) (p, false, sv2) := ⟨rfl, rfl, h1, h2, h3, h4, h5, fun _ => ⟨c2, h6, h7⟩⟩
theorem pair_id (r : Bool × Nat × LawT) : ((if r.1 = true then true else false, r.2.1, r.2.2) : Bool × Nat × LawT) = r := by
  obtain ⟨b, p, x⟩ := r
  cases b <;> rfl
theorem from_sim {sz an : Nat} {bt : Nat → Int32} (han : an < 8) (hs : sz ≤ 120) {m pl : Nat} {x : LawT} {sv : Nat → Int32} {c : Nat} (hp : pl ≤ sz) (h : pc9 sz an bt x sv c m) (hc : c ≤ pl) (h102 : r_here sz pl sv = 102) (P : PF6) : cre9 sz an bt m pl sv (q_readClause sz bt pl x) (r_clause an sz P pl false sv) := by
  have ht := h.1.1
  have p1 : pl + 1 ≤ sz := here_up hs hp ht (by decide) h102
  unfold q_readClause r_clause
  rw [take_q hs hp ht (by decide), if_pos h102, if_pos h102]
  dsimp only
  rw [if_pos rfl]
  unfold r_froms
  have es : r_spells an sz 9 pl false sv = r_spellGo an sz 9 sv 4 1 (pl + 1) false := by
    show r_spellGo an sz 9 sv (4 + 1) 0 pl false = _
    rw [r_spellGo_s, show nI ((txB 9).getD 0 0) = 102 from rfl, must_q, if_pos h102]
  obtain ⟨b, p, b1, b2, b3, b4⟩ := all_q (an := an) (i := 0) (i2 := 9) hs ht 4 0 1 (pl + 1) p1 (by decide)
  rw [es, b4, show q_takeAll sz bt 0 (pl + 1) = (b, p) from b3]
  cases b with
  | false =>
    dsimp only
    rw [if_neg (by decide), show (!false) = true from rfl, figure_w]
    dsimp only
    rw [must_w]
    dsimp only
    rw [fig_w]
    dsimp only
    rw [if_pos rfl]
    exact cre9.no (by omega) b2
  | true =>
    dsimp only
    rw [if_pos rfl, show (!true) = false from rfl, figure_q, pair_id]
    unfold q_readFrom
    rw [one_q hs b2 ht]
    rcases dig5 (r_here sz p sv) with ⟨q, k, hk, ek, ik, sk⟩ | ⟨q, ik⟩
    · have p2 : p + 1 ≤ sz := here_up hs b2 ht (nIm9 (by omega)) ek
      rw [if_pos q, ik, sk]
      dsimp only
      rw [if_neg (show ¬ nI k < 0 from nI_pos (by omega)), if_neg (show ¬ nI k < 0 from nI_pos (by omega)), take_q hs p2 ht (by decide), must_q]
      by_cases q2 : r_here sz (p + 1) sv = 32
      · have p3 : p + 1 + 1 ≤ sz := here_up hs p2 ht (by decide) q2
        rw [if_pos q2, if_pos q2]
        dsimp only
        rw [if_pos rfl]
        rcases num_q (an := an) hs p3 ht with ⟨v, p4, v9, k1, k2, e1, e2⟩ | ⟨e1, e2⟩
        · rw [e1, e2]
          dsimp only
          rw [if_neg (show ¬ nI v < 0 from nI_pos (by omega)), if_neg (by decide)]
          have ea : ((506 : Int32) + 4 * nI an + nI k).toNatClampNeg = 506 + 4 * an + k := cl3 (a := 506) (b := 4) (by omega)
          have eg : g_putFrom x (nI k) (nI v) = lSetFrom x (upd (lFrom x) k (nI v)) := by
            unfold g_putFrom
            rw [if_pos (show f_isStuff (nI k) = true by
              unfold f_isStuff
              rw [if_neg (nI_pos (by omega)), if_neg (show ¬ (4 : Int32) ≤ nI k from nI_ge (b := 4) (by omega) (by decide))]), nI_clamp (by omega)]
          rw [ea, eg]
          have n : ∀ j, j ≠ 506 + 4 * an + k → upd sv (506 + 4 * an + k) (nI v) j = sv j := fun j z => pk_un z
          obtain ⟨⟨a1, a2, a3, a4⟩, a5, a6, ⟨a7, a8⟩, a9, a10⟩ := h
          refine cre9.ok (p := p4) (x2 := lSetFrom x (upd (lFrom x) k (nI v))) (sv2 := upd sv (506 + 4 * an + k) (nI v)) c (by omega) k2 (fun j z => n j (fun e => z ?_)) (fun hI => ?_) (fun hO => ?_) (by omega) ⟨⟨fun i hi => ?_, a2, ?_, fun i hi => ?_⟩, ?_, fun k9 hk9 => ?_, ⟨?_, show (lOv x).1 ≤ m + 1 by omega⟩, fun i hi j hj => ?_, ?_⟩
          · unfold lr9; omega
          · exact hI.putR (lo := 506) (hi := 537) (x := 0) (y := 999) (by decide) (by omega) (by omega) (ib_lit (by omega) (by omega) (by omega))
          · exact hO.cg (fun j _ _ => n j (by omega))
          · rw [n _ (by omega)]; exact a1 i hi
          · rw [n _ (by omega)]; exact a3
          · rw [n _ (by omega)]; exact a4 i hi
          · rw [n _ (by omega)]; exact a5
          · show upd (lFrom x) k (nI v) k9 = _
            by_cases z : k9 = k
            · subst z; exact pk_us.trans pk_us.symm
            · rw [pk_un z, n _ (by omega)]; exact a6 k9 hk9
          · rw [n _ (by omega)]; exact a7
          · have a8 : (lOv x).1 ≤ m := a8
            have hi : i < (lOv x).1 := hi
            rw [n _ (by omega)]; exact a9 i hi j hj
          · exact okS_cg _ _ _ _ (fun j _ _ => n _ (by omega)) a10
        · rw [e1, e2]
          dsimp only
          rw [if_pos (show (-1 : Int32) < 0 by decide), if_pos rfl]
          exact cre9.no (by omega) p3
      · rw [if_neg q2, if_neg q2]
        dsimp only
        rw [if_neg (by decide), fig_w]
        dsimp only
        rw [if_pos rfl]
        exact cre9.no (by omega) p2
    · rw [if_neg q, ik, if_pos (show (-1 : Int32) < 0 by decide)]
      dsimp only
      rw [if_pos (show (-1 : Int32) < 0 by decide), must_w]
      dsimp only
      rw [fig_w]
      dsimp only
      rw [if_pos rfl]
      exact cre9.no (by omega) b2
theorem over_sim {sz an : Nat} {bt : Nat → Int32} (han : an < 8) (hs : sz ≤ 120) {m pl : Nat} {x : LawT} {sv : Nat → Int32} {c : Nat} (hp : pl ≤ sz) (h : pc9 sz an bt x sv c m) (hm : m ≤ 9) (hc : c ≤ pl) (h111 : r_here sz pl sv = 111) (P : PF6) : cre9 sz an bt m pl sv (q_readClause sz bt pl x) (r_clause an sz P pl false sv) := by
  have ht := h.1.1
  have p1 : pl + 1 ≤ sz := here_up hs hp ht (by decide) h111
  unfold q_readClause r_clause
  rw [take_q hs hp ht (by decide), h111, if_neg (by decide), if_neg (by decide), if_pos rfl]
  dsimp only
  rw [if_neg (by decide), take_q hs hp ht (by decide), if_pos h111]
  dsimp only
  rw [if_pos rfl]
  unfold r_overs
  have es : r_spells an sz 10 pl false sv = r_spellGo an sz 10 sv 4 1 (pl + 1) false := by
    show r_spellGo an sz 10 sv (4 + 1) 0 pl false = _
    rw [r_spellGo_s, show nI ((txB 10).getD 0 0) = 111 from rfl, must_q, if_pos h111]
  obtain ⟨b, p, b1, b2, b3, b4⟩ := all_q (an := an) (i := 1) (i2 := 10) hs ht 4 0 1 (pl + 1) p1 (by decide)
  rw [es, b4, show q_takeAll sz bt 1 (pl + 1) = (b, p) from b3]
  cases b with
  | false =>
    dsimp only
    rw [if_neg (by decide), show (!false) = true from rfl, figure_w]
    dsimp only
    rw [must_w]
    dsimp only
    rw [figure_w]
    dsimp only
    rw [must_w]
    dsimp only
    rw [fig_w]
    dsimp only
    rw [if_pos rfl]
    exact cre9.no (by omega) b2
  | true =>
    dsimp only
    rw [if_pos rfl, show (!true) = false from rfl, figure_q, pair_id]
    unfold q_readOver
    rw [one_q hs b2 ht]
    rcases dig5 (r_here sz p sv) with ⟨q, k, hk, ek, ik, sk⟩ | ⟨q, ik⟩
    · have p2 : p + 1 ≤ sz := here_up hs b2 ht (nIm9 (by omega)) ek
      rw [if_pos q, ik, sk]
      dsimp only
      rw [if_neg (show ¬ nI k < 0 from nI_pos (by omega)), if_neg (show ¬ nI k < 0 from nI_pos (by omega)), take_q hs p2 ht (by decide), must_q]
      by_cases q2 : r_here sz (p + 1) sv = 32
      · have p3 : p + 1 + 1 ≤ sz := here_up hs p2 ht (by decide) q2
        rw [if_pos q2, if_pos q2]
        dsimp only
        rw [if_pos rfl, figure_q, one_q hs p3 ht]
        rcases dig5 (r_here sz (p + 1 + 1) sv) with ⟨q5, g, hg, eg, ig, sg⟩ | ⟨q5, ig⟩
        · have p5 : p + 1 + 1 + 1 ≤ sz := here_up hs p3 ht (nIm9 (by omega)) eg
          rw [if_pos q5, ig, sg]
          dsimp only
          rw [if_neg (show ¬ nI g < 0 from nI_pos (by omega)), if_neg (show ¬ nI g < 0 from nI_pos (by omega)), take_q hs p5 ht (by decide), must_q]
          by_cases q6 : r_here sz (p + 1 + 1 + 1) sv = 32
          · have p6 : p + 1 + 1 + 1 + 1 ≤ sz := here_up hs p5 ht (by decide) q6
            rw [if_pos q6, if_pos q6]
            dsimp only
            rw [if_pos rfl]
            rcases num_q (an := an) hs p6 ht with ⟨v, p4, v9, k1, k2, e1, e2⟩ | ⟨e1, e2⟩
            · rw [e1, e2]
              dsimp only
              rw [if_neg (show ¬ nI v < 0 from nI_pos (by omega)), if_neg (by decide)]
              obtain ⟨⟨a1, a2, a3, a4⟩, a5, a6, ⟨a7, a8⟩, a9, a10⟩ := h
              have c2 : (538 + nI an : Int32).toNatClampNeg = 538 + an := cell_at (b := 538) han (by decide)
              obtain ⟨o, eo⟩ : ∃ o, (lOv x).1 = o := ⟨_, rfl⟩
              rw [eo] at a7 a8 a9
              obtain ⟨z1, z2, z3⟩ := over_at2 (an := an) (c := o) han (by omega)
              rw [c2, a7, z1, z2, z3]
              generalize eA : 546 + 3 * (10 * an + o) = A
              have e3 : (upd (upd (upd sv A (nI k)) (A + 1) (nI g)) (A + 2) (nI v)) (538 + an) + 1 = nI (o + 1) := by
                rw [pk_un (by omega), pk_un (by omega), pk_un (by omega), a7, nI_1]
              rw [e3]
              obtain ⟨f1, f2⟩ := add_n (nm := 10) (n := (lOv x).1) (f := (lOv x).2) (by omega) (by decide)
              have f1 : g_add 10 (lOv x) = ((lOv x).1 + 1, (lOv x).2) := f1
              have f2 : f_add 10 (lOv x) = nI (lOv x).1 := f2
              have gp : ∀ (f : Nat → Int32) (c : Nat) (v : Int32), c < 3 → g_put 3 (o + 1, f) (nI o) (nI c) v = (o + 1, upd f (3 * o + c) v) := fun f c v hc => g_put_n (by omega) (by omega) (by decide) hc
              have eg9 : g_addOver x (nI k) (nI g) (nI v) = lSetOv x (o + 1, upd (upd (upd (lOv x).2 (3 * o + 0) (nI k)) (3 * o + 1) (nI g)) (3 * o + 2) (nI v)) := by
                unfold g_addOver
                rw [f1, f2, eo, show g_put 3 (o + 1, (lOv x).2) (nI o) 0 (nI k) = _ from gp _ 0 _ (by decide), show ∀ f v, g_put 3 (o + 1, f) (nI o) 1 v = _ from fun f v => gp f 1 v (by decide), show ∀ f v, g_put 3 (o + 1, f) (nI o) 2 v = _ from fun f v => gp f 2 v (by decide)]
              rw [eg9]
              have n1 : ∀ j, j ≠ 538 + an → upd (upd (upd (upd sv A (nI k)) (A + 1) (nI g)) (A + 2) (nI v)) (538 + an) (nI (o + 1)) j = upd (upd (upd sv A (nI k)) (A + 1) (nI g)) (A + 2) (nI v) j := fun j z => pk_un z
              have n : ∀ j, j ≠ 538 + an → ¬ (A ≤ j ∧ j < A + 3) → upd (upd (upd (upd sv A (nI k)) (A + 1) (nI g)) (A + 2) (nI v)) (538 + an) (nI (o + 1)) j = sv j := fun j z y => by rw [n1 j z, pk_un (by omega), pk_un (by omega), pk_un (by omega)]
              have m0 : upd (upd (upd (upd sv A (nI k)) (A + 1) (nI g)) (A + 2) (nI v)) (538 + an) (nI (o + 1)) A = nI k := by rw [n1 _ (by omega), pk_un (by omega), pk_un (by omega)]; exact pk_us
              have m1 : upd (upd (upd (upd sv A (nI k)) (A + 1) (nI g)) (A + 2) (nI v)) (538 + an) (nI (o + 1)) (A + 1) = nI g := by rw [n1 _ (by omega), pk_un (by omega)]; exact pk_us
              have m2 : upd (upd (upd (upd sv A (nI k)) (A + 1) (nI g)) (A + 2) (nI v)) (538 + an) (nI (o + 1)) (A + 2) = nI v := by rw [n1 _ (by omega)]; exact pk_us
              have hI2 : mI sv → mI (upd (upd (upd (upd sv A (nI k)) (A + 1) (nI g)) (A + 2) (nI v)) (538 + an) (nI (o + 1))) := fun hI => by
                have hm : (546, 785, 0, 999) ∈ mRg := by decide
                exact (((hI.putR hm (by omega) (by omega) (ib_lit (by omega) (by omega) (by omega))).putR hm (by omega) (by omega) (ib_lit (by omega) (by omega) (by omega))).putR hm (by omega) (by omega) (ib_lit (by omega) (by omega) (by omega))).putR (lo := 538) (hi := 545) (x := 0) (y := 10) (by decide) (by omega) (by omega) (ib_lit (by omega) (by omega) (by omega))
              have m3 : upd (upd (upd (upd sv A (nI k)) (A + 1) (nI g)) (A + 2) (nI v)) (538 + an) (nI (o + 1)) (538 + an) = nI (o + 1) := pk_us
              generalize upd (upd (upd (upd sv A (nI k)) (A + 1) (nI g)) (A + 2) (nI v)) (538 + an) (nI (o + 1)) = S at *
              refine cre9.ok (p := p4) (x2 := lSetOv x (o + 1, upd (upd (upd (lOv x).2 (3 * o + 0) (nI k)) (3 * o + 1) (nI g)) (3 * o + 2) (nI v))) (sv2 := S) c (by omega) k2 (fun j z => n j (fun e => z (by unfold lr9; omega)) (fun e => z (by unfold lr9; omega))) hI2 (fun hO i hi => ?_) (by omega) ⟨⟨fun i hi => ?_, a2, ?_, fun i hi => ?_⟩, ?_, fun k9 hk9 => ?_, ⟨m3, show o + 1 ≤ m + 1 by omega⟩, fun i hi j hj => ?_, ?_⟩
              · show ib 0 3 (S (546 + 3 * i)) ∧ ib 0 3 (S (546 + 3 * i + 1))
                by_cases z : i = 10 * an + o
                · rw [z, eA, m0, m1]
                  exact ⟨ib_lit (by omega) (by omega) (by omega), ib_lit (by omega) (by omega) (by omega)⟩
                · rw [n _ (by omega) (by omega), n _ (by omega) (by omega)]
                  exact hO i hi
              · show bt i &&& 255 = S (10 + i)
                rw [n _ (by omega) (by omega)]; exact a1 i hi
              · show S (786 + an) = nI c
                rw [n _ (by omega) (by omega)]; exact a3
              · show enc (lSt x i) (S (794 + 140 * an + i))
                rw [n _ (by omega) (by omega)]; exact a4 i hi
              · show lSlip x = S (498 + an)
                rw [n _ (by omega) (by omega)]; exact a5
              · show lFrom x k9 = S (506 + 4 * an + k9)
                rw [n _ (by omega) (by omega)]; exact a6 k9 hk9
              · have hi : i < o + 1 := hi
                show upd (upd (upd (lOv x).2 (3 * o + 0) (nI k)) (3 * o + 1) (nI g)) (3 * o + 2) (nI v) (3 * i + j) = S (546 + 3 * (10 * an + i) + j)
                by_cases z : i = o
                · subst z
                  rw [eA]
                  match j, hj with
                  | 0, _ => rw [pk_un (by omega), pk_un (by omega)]; exact pk_us.trans m0.symm
                  | 1, _ => rw [pk_un (by omega)]; exact pk_us.trans m1.symm
                  | 2, _ => exact pk_us.trans m2.symm
                · rw [pk_un (by omega), pk_un (by omega), pk_un (by omega), n _ (by omega) (by omega)]
                  exact a9 i (by omega) j hj
              · show okS (stp an S) c 0 0 0
                exact okS_cg _ _ _ _ (fun j _ _ => n _ (by omega) (by omega)) a10
            · rw [e1, e2]
              dsimp only
              rw [if_pos (show (-1 : Int32) < 0 by decide), if_pos rfl]
              exact cre9.no (by omega) p6
          · rw [if_neg q6, if_neg q6]
            dsimp only
            rw [if_neg (by decide), fig_w]
            dsimp only
            rw [if_pos rfl]
            exact cre9.no (by omega) p5
        · rw [if_neg q5, ig, if_pos (show (-1 : Int32) < 0 by decide)]
          dsimp only
          rw [if_pos (show (-1 : Int32) < 0 by decide), must_w]
          dsimp only
          rw [fig_w]
          dsimp only
          rw [if_pos rfl]
          exact cre9.no (by omega) p3
      · rw [if_neg q2, if_neg q2]
        dsimp only
        rw [if_neg (by decide), figure_w]
        dsimp only
        rw [must_w]
        dsimp only
        rw [fig_w]
        dsimp only
        rw [if_pos rfl]
        exact cre9.no (by omega) p2
    · rw [if_neg q, ik, if_pos (show (-1 : Int32) < 0 by decide)]
      dsimp only
      rw [if_pos (show (-1 : Int32) < 0 by decide), must_w]
      dsimp only
      rw [figure_w]
      dsimp only
      rw [must_w]
      dsimp only
      rw [fig_w]
      dsimp only
      rw [if_pos rfl]
      exact cre9.no (by omega) b2
theorem slip_sim {sz an : Nat} {bt : Nat → Int32} (han : an < 8) (hs : sz ≤ 120) {m pl : Nat} {x : LawT} {sv : Nat → Int32} {c : Nat} (hp : pl ≤ sz) (h : pc9 sz an bt x sv c m) (hc : c ≤ pl) (h115 : r_here sz pl sv = 115) (h108 : r_here sz (pl + 1) sv = 108) (P : PF6) : cre9 sz an bt m pl sv (q_readClause sz bt pl x) (r_clause an sz P pl false sv) := by
  have ht := h.1.1
  have p1 : pl + 1 ≤ sz := here_up hs hp ht (by decide) h115
  have p0 : pl + 1 + 1 ≤ sz := here_up hs p1 ht (by decide) h108
  unfold q_readClause r_clause
  rw [take_q hs hp ht (by decide), h115, if_neg (by decide), if_neg (by decide), if_neg (by decide), if_pos rfl]
  dsimp only
  rw [if_neg (by decide), take_q hs hp ht (by decide), h115, if_neg (show ¬ (115 : Int32) = 111 by decide)]
  dsimp only
  rw [if_neg (by decide), take_q hs hp ht (by decide), if_pos h115]
  dsimp only
  rw [if_pos rfl, take_q hs p1 ht (by decide), if_pos h108]
  dsimp only
  rw [if_pos rfl]
  have em : r_must an sz 115 pl false sv = (pl + 1, false) := by rw [must_q, if_pos h115]
  rw [sayings_eq an sz P pl false sv em, if_neg (show ¬ (false = true) by decide), if_pos h108]
  unfold r_slip
  have es : r_spells an sz 11 (pl + 1) false sv = r_spellGo an sz 11 sv 3 1 (pl + 1 + 1) false := by
    show r_spellGo an sz 11 sv (3 + 1) 0 (pl + 1) false = _
    rw [r_spellGo_s, show nI ((txB 11).getD 0 0) = 108 from rfl, must_q, if_pos h108]
  obtain ⟨b, p, b1, b2, b3, b4⟩ := all_q (an := an) (i := 2) (i2 := 11) hs ht 3 0 1 (pl + 1 + 1) p0 (by decide)
  have e498 : (498 + nI an : Int32).toNatClampNeg = 498 + an := cell_at (b := 498) han (by decide)
  rw [es, b4, show q_takeAll sz bt 2 (pl + 1 + 1) = (b, p) from b3, e498]
  cases b with
  | false =>
    dsimp only
    rw [if_neg (by decide), show (!false) = true from rfl, fig_w]
    dsimp only
    rw [if_pos rfl, upd_same]
    exact cre9.no (by omega) b2
  | true =>
    dsimp only
    rw [if_pos rfl, show (!true) = false from rfl, pair_id]
    unfold q_readSlip
    rcases num_q (an := an) hs b2 ht with ⟨v, p4, v9, k1, k2, e1, e2⟩ | ⟨e1, e2⟩
    · rw [e1, e2]
      dsimp only
      rw [if_neg (show ¬ nI v < 0 from nI_pos (by omega)), if_neg (show ¬ (false = true) by decide)]
      obtain ⟨w, hw, ew1, ew2⟩ : ∃ w : Nat, w ≤ 100 ∧ (if 100 < nI v then 100 else nI v) = nI w ∧ (if nI v ≤ 100 then nI v else 100) = nI w := by
        by_cases z : v ≤ 100
        · exact ⟨v, z, by rw [if_neg (show ¬ (100 : Int32) < nI v from nI_nlt (a := 100) z (by decide))], by rw [if_pos (show nI v ≤ (100 : Int32) from nI_le (b := 100) z (by decide))]⟩
        · exact ⟨100, Nat.le_refl _, by rw [if_pos (show (100 : Int32) < nI v from nI_lt (a := 100) (by omega) (by omega))]; rfl, by rw [if_neg (show ¬ nI v ≤ (100 : Int32) from nI_ge (a := 100) (by omega) (by omega))]; rfl⟩
      rw [ew1, ew2]
      obtain ⟨⟨a1, a2, a3, a4⟩, a5, a6, ⟨a7, a8⟩, a9, a10⟩ := h
      have n : ∀ j, j ≠ 498 + an → upd sv (498 + an) (nI w) j = sv j := fun j z => pk_un z
      refine cre9.ok (p := p4) (x2 := lSetSlip x (nI w)) (sv2 := upd sv (498 + an) (nI w)) c (by omega) k2 (fun j z => n j (fun e => z (by unfold lr9; omega))) (fun hI => ?_) (fun hO => ?_) (by omega) ⟨⟨fun i hi => ?_, a2, ?_, fun i hi => ?_⟩, ?_, fun k9 hk9 => ?_, ⟨?_, show (lOv x).1 ≤ m + 1 by omega⟩, fun i hi j hj => ?_, ?_⟩
      · exact hI.putR (lo := 498) (hi := 505) (x := 0) (y := 100) (by decide) (by omega) (by omega) (ib_lit (by omega) (by omega) (by omega))
      · exact hO.cg (fun j _ _ => n j (by omega))
      · rw [n _ (by omega)]; exact a1 i hi
      · rw [n _ (by omega)]; exact a3
      · rw [n _ (by omega)]; exact a4 i hi
      · show nI w = _
        exact pk_us.symm
      · rw [n _ (by omega)]; exact a6 k9 hk9
      · rw [n _ (by omega)]; exact a7
      · rw [n _ (by omega)]; exact a9 i hi j hj
      · exact okS_cg _ _ _ _ (fun j _ _ => n _ (by omega)) a10
    · rw [e1, e2]
      dsimp only
      rw [if_pos (show (-1 : Int32) < 0 by decide), if_pos rfl, upd_same]
      exact cre9.no (by omega) b2
theorem ok_say {f : Nat → Int32} {k n : Nat} (h : f k = -10 - nI n) (hn : n < 3) : okS f 1 k 1 0 := by
  obtain ⟨z1, z2, z3, z4, z5⟩ := sayd_neg hn
  rw [okS_s, h, if_pos z1, if_neg z3, if_pos z5]
  exact ⟨rfl, rfl⟩
theorem say_ib {n : Nat} (hn : n < 3) : ib (-12) 33000 (-10 - nI n) := by
  match n, hn with
  | 0, _ => exact ⟨by decide, by decide⟩
  | 1, _ => exact ⟨by decide, by decide⟩
  | 2, _ => exact ⟨by decide, by decide⟩
theorem say_sim {sz an : Nat} {bt : Nat → Int32} (han : an < 8) (hs : sz ≤ 120) {m pl : Nat} {x : LawT} {sv : Nat → Int32} {c : Nat} (hp : pl ≤ sz) (h : pc9 sz an bt x sv c m) (hm : m ≤ 9) (hc : c ≤ pl) (h115 : r_here sz pl sv = 115) (h108 : ¬ r_here sz (pl + 1) sv = 108) (Q : PF6) (es9 : sim9 sz an bt 12 (q_eith sz bt 5) Q) (pw : ∀ (sp9 : Nat) (sv9 : Nat → Int32), Q sp9 true sv9 = (sp9, true, sv9)) : cre9 sz an bt m pl sv (q_readClause sz bt pl x) (r_clause an sz Q pl false sv) := by
  have ht := h.1.1
  have p1 : pl + 1 ≤ sz := here_up hs hp ht (by decide) h115
  unfold q_readClause r_clause
  rw [take_q hs hp ht (by decide), h115, if_neg (by decide), if_neg (by decide), if_neg (by decide), if_pos rfl]
  dsimp only
  rw [if_neg (by decide), take_q hs hp ht (by decide), h115, if_neg (show ¬ (115 : Int32) = 111 by decide)]
  dsimp only
  rw [if_neg (by decide), take_q hs hp ht (by decide), if_pos h115]
  dsimp only
  rw [if_pos rfl, take_q hs p1 ht (by decide), if_neg h108]
  dsimp only
  rw [if_neg (by decide)]
  have em : r_must an sz 115 pl false sv = (pl + 1, false) := by rw [must_q, if_pos h115]
  rw [sayings_eq an sz Q pl false sv em, if_neg (show ¬ (false = true) by decide), if_neg h108]
  unfold r_sayTail
  obtain ⟨b, p, b1, b2, b3, b4⟩ := all_q (an := an) (i := 3) (i2 := 12) hs ht 3 0 0 (pl + 1) p1 (by decide)
  rw [show r_spells an sz 12 (pl + 1) false sv = (p, !b) from b4, show q_takeAll sz bt 3 (pl + 1) = (b, p) from b3]
  cases b with
  | false =>
    dsimp only
    rw [if_neg (by decide), show (!false) = true from rfl, figure_w]
    dsimp only
    rw [must_w]
    dsimp only
    rw [pw]
    dsimp only
    rw [emits_w]
    exact cre9.no (by omega) b2
  | true =>
    dsimp only
    rw [if_pos rfl, show (!true) = false from rfl, figure_q, one_q hs b2 ht]
    rcases dig4 (r_here sz p sv) with ⟨q, k, hk, ek, ik, sk⟩ | ⟨q, ik⟩
    · have p2 : p + 1 ≤ sz := here_up hs b2 ht (nIm9 (by omega)) ek
      rw [if_pos q, ik, sk]
      dsimp only
      rw [if_neg (show ¬ nI k < 0 from nI_pos (by omega)), if_neg (show ¬ nI k < 0 from nI_pos (by omega)), take_q hs p2 ht (by decide), must_q]
      by_cases q2 : r_here sz (p + 1) sv = 32
      · have p3 : p + 1 + 1 ≤ sz := here_up hs p2 ht (by decide) q2
        rw [if_pos q2, if_pos q2]
        dsimp only
        rw [if_pos rfl]
        obtain ⟨a0, a5, a6, ⟨a7, a8⟩, a9, a10⟩ := h
        have hr := es9 (p + 1 + 1) x sv c p3 a0 (by omega)
        generalize q_eith sz bt 5 (p + 1 + 1) x = r at hr ⊢
        generalize Q (p + 1 + 1) false sv = y at hr ⊢
        obtain ⟨b9, s2, x2⟩ := r
        obtain ⟨s3, w3, sv2⟩ := y
        obtain ⟨r1, r2, r3, r4, r5, r6, r7⟩ := hr
        dsimp only at r1 r2 r3 r4 r5 r6 r7
        subst r1 r2
        cases b9 with
        | false =>
          dsimp only
          rw [if_neg (by decide), show (!false) = true from rfl, emits_w]
          exact ⟨rfl, rfl, by show pl ≤ s3; omega, r4, fun j z => r5 j (fun e => z (by unfold lr9; omega)) (fun e => z (by unfold lr9; omega)), r6, fun hO => hO.cg (fun j _ _ => r5 j (by omega) (by omega)), fun z => by cases z⟩
        | true =>
          dsimp only
          rw [if_pos rfl, show (!true) = false from rfl]
          obtain ⟨c2, j1, j2, j3, j4, j5, j6⟩ := r7 rfl
          have hk3 : k < 3 := by omega
          obtain ⟨g1, g2, g3, g4, g5, g6⟩ := emit9 j3 han hs (show c2 < 120 by omega) (a := -10 - nI k) (v := -10 - nI k) (.inr (.inr (.inr (.inr ⟨k, hk3, rfl, rfl⟩)))) (say_ib hk3)
          have fr := r5.tr g3
          have e1 : lSlip (g_addStep x2 (-10 - nI k)) = lSlip x := by rw [g2, j4]
          have e2 : lFrom (g_addStep x2 (-10 - nI k)) = lFrom x := by rw [g2, j4]
          have e3 : lOv (g_addStep x2 (-10 - nI k)) = lOv x := by rw [g2, j4]
          refine cre9.ok (p := s3) (x2 := g_addStep x2 (-10 - nI k)) (sv2 := r_emits an sz (-10 - nI k) false sv2) (c2 + 1) (by omega) r4 (fun j z => fr j (fun e => z (by unfold lr9; omega)) (fun e => z (by unfold lr9; omega))) (fun z => g4 (r6 z)) (fun hO => hO.cg (fun j _ _ => fr j (by omega) (by omega))) (by omega) ⟨g1, ?_, fun k9 hk9 => ?_, ⟨?_, ?_⟩, fun i hi j hj => ?_, ?_⟩
          · show lSlip (g_addStep x2 (-10 - nI k)) = _
            rw [e1, fr _ (by omega) (by omega)]; exact a5
          · show lFrom (g_addStep x2 (-10 - nI k)) k9 = _
            rw [e2, fr _ (by omega) (by omega)]; exact a6 k9 hk9
          · show _ = nI (lOv (g_addStep x2 (-10 - nI k))).1
            rw [e3, fr _ (by omega) (by omega)]; exact a7
          · show (lOv (g_addStep x2 (-10 - nI k))).1 ≤ m + 1
            rw [e3]; omega
          · have hi : i < (lOv (g_addStep x2 (-10 - nI k))).1 := hi
            show (lOv (g_addStep x2 (-10 - nI k))).2 (3 * i + j) = _
            rw [e3] at hi ⊢
            rw [fr _ (by omega) (by omega)]; exact a9 i hi j hj
          · show okS (stp an (r_emits an sz (-10 - nI k) false sv2)) (c2 + 1) 0 0 0
            have o1 : okS (stp an (r_emits an sz (-10 - nI k) false sv2)) c 0 0 0 := okS_cg _ _ _ _ (fun j _ hj => (g5 j (by omega)).trans (j5 j (by omega))) a10
            have o2 : okS (stp an (r_emits an sz (-10 - nI k) false sv2)) (c2 - c) (0 + c) 0 1 := by
              rw [Nat.zero_add]
              exact okS_cg _ _ _ _ (fun j _ hj => g5 j (by omega)) (j6 0 (by omega))
            have o3 := okS_app _ _ _ _ _ _ _ o1 o2
            rw [show c + (c2 - c) = c2 by omega] at o3
            exact okS_app _ 1 1 0 c2 0 0 o3 (by rw [Nat.zero_add]; exact ok_say g6 hk3)
      · rw [if_neg q2, if_neg q2]
        dsimp only
        rw [if_neg (by decide), pw]
        dsimp only
        rw [emits_w]
        exact cre9.no (by omega) p2
    · rw [if_neg q, ik, if_pos (show (-1 : Int32) < 0 by decide)]
      dsimp only
      rw [if_pos (show (-1 : Int32) < 0 by decide), must_w]
      dsimp only
      rw [pw]
      dsimp only
      rw [emits_w]
      exact cre9.no (by omega) b2
theorem clause_sim {sz an : Nat} {bt : Nat → Int32} (han : an < 8) (hs : sz ≤ 120) {m pl : Nat} {x : LawT} {sv : Nat → Int32} {c : Nat} (hp : pl ≤ sz) (h : pc9 sz an bt x sv c m) (hm : m ≤ 9) (hc : c ≤ pl) (Q : PF6) (es9 : sim9 sz an bt 12 (q_eith sz bt 5) Q) (pw : ∀ (sp9 : Nat) (sv9 : Nat → Int32), Q sp9 true sv9 = (sp9, true, sv9)) : cre9 sz an bt m pl sv (q_readClause sz bt pl x) (r_clause an sz Q pl false sv) := by
  by_cases q1 : r_here sz pl sv = 102
  · exact from_sim han hs hp h hc q1 _
  · by_cases q2 : r_here sz pl sv = 111
    · exact over_sim han hs hp h hm hc q2 _
    · by_cases q3 : r_here sz pl sv = 115
      · by_cases q4 : r_here sz (pl + 1) sv = 108
        · exact slip_sim han hs hp h hc q3 q4 _
        · exact say_sim han hs hp h hm hc q3 q4 Q es9 pw
      · have ht := h.1.1
        unfold q_readClause r_clause
        rw [take_q hs hp ht (by decide), if_neg q1, if_neg q1, if_neg q2, if_neg q3]
        dsimp only
        rw [if_neg (by decide), take_q hs hp ht (by decide), if_neg q2]
        dsimp only
        rw [if_neg (by decide), take_q hs hp ht (by decide), if_neg q3]
        dsimp only
        rw [if_neg (by decide)]
        exact cre9.no (Nat.le_refl _) hp

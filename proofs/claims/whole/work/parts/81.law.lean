/-! a law is read alike by both -/
def lre9 (sz an : Nat) (bt sv : Nat → Int32) (A : Bool × Nat × LawT) (B : Int32 × Nat × Bool × (Nat → Int32)) : Prop := B.1 = (if A.1 = true then nI an else -10 - nI A.2.1) ∧ A.2.1 ≤ sz ∧ ∃ s0 : Nat → Int32, B.2.2.2 = (if A.1 = true then upd s0 3 (s0 3 + 1) else s0) ∧ (∀ j, ¬ lr9 an j → s0 j = sv j) ∧ (mI sv → mI s0) ∧ (mO sv → mO s0) ∧ (A.1 = true → ∃ c2 : Nat, c2 ≤ 120 ∧ pc9 sz an bt A.2.2 s0 c2 10)
theorem pc9.wk {sz an : Nat} {bt : Nat → Int32} {x : LawT} {sv : Nat → Int32} {c m m2 : Nat} (h : pc9 sz an bt x sv c m) (hm : m ≤ m2) : pc9 sz an bt x sv c m2 := ⟨h.1, h.2.1, h.2.2.1, ⟨h.2.2.2.1.1, Nat.le_trans h.2.2.2.1.2 hm⟩, h.2.2.2.2⟩
theorem into_sim {sz an : Nat} {bt : Nat → Int32} (han : an < 8) (hs : sz ≤ 120) (Q : PF6) (es9 : sim9 sz an bt 12 (q_eith sz bt 5) Q) (pw : ∀ (sp9 : Nat) (sv9 : Nat → Int32), Q sp9 true sv9 = (sp9, true, sv9)) : ∀ (f k pl : Nat) (x : LawT) (sv : Nat → Int32) (c : Nat), k + f = 10 → 1 ≤ k → pl ≤ sz → pc9 sz an bt x sv c (k - 1) → c ≤ pl → lre9 sz an bt sv (q_intoGo sz bt (f + 1) k pl x) (r_lawGo an sz Q f (r_clause an sz Q pl false sv).1 (r_clause an sz Q pl false sv).2.1 (r_clause an sz Q pl false sv).2.2)
  | f, k, pl, x, sv, c, hk, h1, hp, h, hc => by
    have hr := clause_sim han hs hp h (by omega) hc Q es9 pw
    have eu : q_intoGo sz bt (f + 1) k pl x = (match q_readClause sz bt pl x with | (b_0, pl_0, x_0) => if b_0 = true then if (nI pl_0) = (nI sz) then (true, pl_0, x_0) else if (nI k) = 10 then (false, pl_0, x_0) else (match q_take sz bt 59 pl_0 with | (b_1, pl_1) => if b_1 = true then q_intoGo sz bt f (k + 1) pl_1 x_0 else (false, pl_1, x_0)) else (false, pl_0, x_0)) := rfl
    rw [eu]
    generalize q_readClause sz bt pl x = r at hr ⊢
    generalize r_clause an sz Q pl false sv = y at hr ⊢
    obtain ⟨b, p2, x2⟩ := r
    obtain ⟨s2, w2, sv2⟩ := y
    obtain ⟨r1, r2, r3, r4, r5, r6, r7, r8⟩ := hr
    dsimp only at r1 r2 r3 r4 r5 r6 r7 r8
    subst r1 r2
    dsimp only
    have fail : lre9 sz an bt sv (false, s2, x2) (-10 - nI s2, s2, true, sv2) := ⟨rfl, r4, sv2, rfl, r5, r6, r7, fun z => by cases z⟩
    have fail2 : lre9 sz an bt sv (false, s2, x2) (-10 - nI s2, s2, false, sv2) := ⟨rfl, r4, sv2, rfl, r5, r6, r7, fun z => by cases z⟩
    cases b with
    | false =>
      rw [if_neg (by decide), show (!false) = true from rfl]
      match f with
      | 0 => rw [r_lawGo_0, if_pos rfl]; exact fail
      | f + 1 => rw [r_lawGo_s, if_pos rfl, if_pos rfl]; exact fail
    | true =>
      obtain ⟨c2, d1, d2⟩ := r8 rfl
      have d1 : c2 ≤ s2 := d1
      have kk : k - 1 + 1 = k := by omega
      rw [kk] at d2
      have good : lre9 sz an bt sv (true, s2, x2) (nI an, s2, false, upd sv2 3 (sv2 3 + 1)) := ⟨rfl, r4, sv2, rfl, r5, r6, r7, fun _ => ⟨c2, by omega, d2.wk (by omega)⟩⟩
      have ht := d2.1.1
      rw [if_pos rfl, show (!true) = false from rfl]
      by_cases q : s2 = sz
      · rw [if_pos (by rw [q])]
        have hh : r_here sz s2 sv2 = -1 := by
          rcases here_v hs r4 ht with ⟨z, -⟩ | ⟨-, z⟩
          · omega
          · exact z
        match f with
        | 0 => rw [r_lawGo_0, if_neg (by decide), if_pos (by rw [q])]; exact good
        | f + 1 => rw [r_lawGo_s, if_neg (by decide), hh, if_neg (by decide), if_neg (by decide), if_pos (by rw [q])]; exact good
      · have qn : ¬ nI s2 = nI sz := fun e => q ((nI_eq (by omega) (by omega)).mp e)
        rw [if_neg qn]
        match f, hk with
        | 0, hk =>
          rw [if_pos (show nI k = 10 by rw [show k = 10 by omega]; rfl), r_lawGo_0, if_neg (by decide), if_neg qn]
          exact fail2
        | f + 1, hk =>
          rw [if_neg (show ¬ nI k = 10 from fun e => by have := (nI_eq (b := 10) (by omega) (by decide)).mp e; omega), take_q hs r4 ht (by decide), r_lawGo_s, if_neg (show ¬ (false = true) by decide)]
          by_cases q2 : r_here sz s2 sv2 = 59
          · have p3 : s2 + 1 ≤ sz := here_up hs r4 ht (by decide) q2
            rw [if_pos q2, if_pos q2]
            dsimp only
            rw [if_pos rfl]
            obtain ⟨n1, n2, s0, n3, n4, n5, n6, n7⟩ := into_sim han hs Q es9 pw f (k + 1) (s2 + 1) x2 sv2 c2 (by omega) (by omega) p3 (by rw [show k + 1 - 1 = k by omega]; exact d2) (by omega)
            exact ⟨n1, n2, s0, n3, fun j z => (n4 j z).trans (r5 j z), fun z => n5 (r6 z), fun z => n6 (r7 z), n7⟩
          · rw [if_neg q2, if_neg q2]
            dsimp only
            rw [if_neg (show ¬ (false = true) by decide), if_neg (show ¬ (false = true) by decide), if_neg qn]
            exact fail2
/-- the row a law is read into -/
theorem row_f (x : MT) {an : Nat} (han : an < 8) (kind vv : Int32) {R : Nat → Int32} (e : r_lawRow x an kind vv = R) : R 4 = 0 ∧ R (482 + an) = kind ∧ R (490 + an) = vv ∧ R (498 + an) = 0 ∧ R (538 + an) = 0 ∧ R (786 + an) = 0 ∧ (∀ k, k < 4 → R (506 + 4 * an + k) = 84) ∧ (∀ j, j ≠ 4 → j ≠ 482 + an → j ≠ 490 + an → ¬ lr9 an j → R j = mS x j) ∧ (mI (mS x) → ib 0 6 kind → ib 0 9 vv → mI R) ∧ ∀ j, 546 ≤ j → j < 786 → R j = mS x j := by
  have b0 : (482 + nI an).toNatClampNeg = 482 + an := cell_at (b := 482) han (by decide)
  have b1 : (490 + nI an).toNatClampNeg = 490 + an := cell_at (b := 490) han (by decide)
  have b2 : (498 + nI an).toNatClampNeg = 498 + an := cell_at (b := 498) han (by decide)
  have c1 : (786 + nI an).toNatClampNeg = 786 + an := cell_at (b := 786) han (by decide)
  have c2 : (538 + nI an).toNatClampNeg = 538 + an := cell_at (b := 538) han (by decide)
  have f : ∀ k : Nat, k ≤ 3 → ((506 + (4 * (nI an))) + nI k).toNatClampNeg = 506 + 4 * an + k := fun k hk => cl3 (a := 506) (b := 4) (by omega)
  have f0 : ((506 + (4 * (nI an))) + 0).toNatClampNeg = 506 + 4 * an + 0 := f 0 (by decide)
  have f1 : ((506 + (4 * (nI an))) + 1).toNatClampNeg = 506 + 4 * an + 1 := f 1 (by decide)
  have f2 : ((506 + (4 * (nI an))) + 2).toNatClampNeg = 506 + 4 * an + 2 := f 2 (by decide)
  have f3 : ((506 + (4 * (nI an))) + 3).toNatClampNeg = 506 + 4 * an + 3 := f 3 (by decide)
  have e : upd (upd (upd (upd (upd (upd (upd (upd (upd (upd (mS x) 4 0) (482 + an) kind) (490 + an) vv) (498 + an) 0) (538 + an) 0) (786 + an) 0) (506 + 4 * an + 0) 84) (506 + 4 * an + 1) 84) (506 + 4 * an + 2) 84) (506 + 4 * an + 3) 84 = R := by
    rw [← e]; unfold r_lawRow
    rw [f0, f1, f2, f3, c1, c2, b0, b1, b2]
    rfl
  refine ⟨?_, ?_, ?_, ?_, ?_, ?_, fun k hk => ?_, fun j z1 z2 z3 z4 => ?_, fun hI hk hv => ?_, fun j z1 z2 => ?_⟩
  · rw [← e, pk_un (by omega), pk_un (by omega), pk_un (by omega), pk_un (by omega), pk_un (by omega), pk_un (by omega), pk_un (by omega), pk_un (by omega), pk_un (by omega), pk_us]
  · rw [← e, pk_un (by omega), pk_un (by omega), pk_un (by omega), pk_un (by omega), pk_un (by omega), pk_un (by omega), pk_un (by omega), pk_un (by omega), pk_us]
  · rw [← e, pk_un (by omega), pk_un (by omega), pk_un (by omega), pk_un (by omega), pk_un (by omega), pk_un (by omega), pk_un (by omega), pk_us]
  · rw [← e, pk_un (by omega), pk_un (by omega), pk_un (by omega), pk_un (by omega), pk_un (by omega), pk_un (by omega), pk_us]
  · rw [← e, pk_un (by omega), pk_un (by omega), pk_un (by omega), pk_un (by omega), pk_un (by omega), pk_us]
  · rw [← e, pk_un (by omega), pk_un (by omega), pk_un (by omega), pk_un (by omega), pk_us]
  · rw [← e]
    match k, hk with
    | 3, _ => exact pk_us
    | 2, _ => rw [pk_un (by omega)]; exact pk_us
    | 1, _ => rw [pk_un (by omega), pk_un (by omega)]; exact pk_us
    | 0, _ => rw [pk_un (by omega), pk_un (by omega), pk_un (by omega)]; exact pk_us
  · unfold lr9 at z4
    rw [← e, pk_un (by omega), pk_un (by omega), pk_un (by omega), pk_un (by omega), pk_un (by omega), pk_un (by omega), pk_un (by omega), pk_un (by omega), pk_un (by omega), pk_un (by omega)]
  · have hm : (506, 537, 0, 999) ∈ mRg := by decide
    have h84 : ib 0 999 (84 : Int32) := ⟨by decide, by decide⟩
    rw [← e]
    exact (((((((((hI.putR (lo := 4) (hi := 4) (x := 0) (y := 120) (by decide) (by omega) (by omega) ⟨by decide, by decide⟩).putR (lo := 482) (hi := 489) (x := 0) (y := 6) (by decide) (by omega) (by omega) hk).putR (lo := 490) (hi := 497) (x := 0) (y := 9) (by decide) (by omega) (by omega) hv).putR (lo := 498) (hi := 505) (x := 0) (y := 100) (by decide) (by omega) (by omega) ⟨by decide, by decide⟩).putR (lo := 538) (hi := 545) (x := 0) (y := 10) (by decide) (by omega) (by omega) ⟨by decide, by decide⟩).putR (lo := 786) (hi := 793) (x := 0) (y := 120) (by decide) (by omega) (by omega) ⟨by decide, by decide⟩).putR hm (by omega) (by omega) h84).putR hm (by omega) (by omega) h84).putR hm (by omega) (by omega) h84).putR hm (by omega) (by omega) h84
  · rw [← e, pk_un (by omega), pk_un (by omega), pk_un (by omega), pk_un (by omega), pk_un (by omega), pk_un (by omega), pk_un (by omega), pk_un (by omega), pk_un (by omega), pk_un (by omega)]
theorem lRel_cg2 {x : LawT} {s s2 : Nat → Int32} {l an : Nat} (hl : l < 8) (hne : l ≠ an) (hr : lRel x s l) (h : ∀ j, 482 ≤ j → j ≠ 482 + an → j ≠ 490 + an → ¬ lr9 an j → s2 j = s j) (han : an < 8) : lRel x s2 l := by
  obtain ⟨a1, a2, a3, a4, a5, ⟨a6, a7⟩, a8, ⟨a9, a10⟩, a11⟩ := hr
  have g : ∀ j, 482 ≤ j → j ≠ 482 + an → j ≠ 490 + an → (j ≠ 498 + an ∧ ¬ (506 + 4 * an ≤ j ∧ j < 510 + 4 * an) ∧ j ≠ 538 + an ∧ ¬ (546 + 30 * an ≤ j ∧ j < 576 + 30 * an) ∧ j ≠ 786 + an ∧ ¬ (794 + 140 * an ≤ j ∧ j < 934 + 140 * an)) → s2 j = s j := fun j b1 b2 b3 b4 => h j b1 b2 b3 (by unfold lr9; omega)
  refine ⟨a1, ?_, ?_, ?_, fun k hk => ?_, ⟨?_, a7⟩, fun i hi j hj => ?_, ⟨?_, a10⟩, fun i hi => ?_⟩
  · rw [g _ (by omega) (by omega) (by omega) (by omega)]; exact a2
  · rw [g _ (by omega) (by omega) (by omega) (by omega)]; exact a3
  · rw [g _ (by omega) (by omega) (by omega) (by omega)]; exact a4
  · rw [g _ (by omega) (by omega) (by omega) (by omega)]; exact a5 k hk
  · rw [g _ (by omega) (by omega) (by omega) (by omega)]; exact a6
  · rw [g _ (by omega) (by omega) (by omega) (by omega)]; exact a8 i hi j hj
  · rw [g _ (by omega) (by omega) (by omega) (by omega)]; exact a9
  · rw [g _ (by omega) (by omega) (by omega) (by omega)]; exact a11 i hi
theorem wfL_cg2 {s s2 : Nat → Int32} {l an : Nat} (hl : l < 8) (hne : l ≠ an) (hI : mI s) (h : ∀ j, 482 ≤ j → j ≠ 482 + an → j ≠ 490 + an → ¬ lr9 an j → s2 j = s j) (han : an < 8) (hw : wfL s l) : wfL s2 l := by
  have g : ∀ j, 482 ≤ j → j ≠ 482 + an → j ≠ 490 + an → (j ≠ 498 + an ∧ ¬ (506 + 4 * an ≤ j ∧ j < 510 + 4 * an) ∧ j ≠ 538 + an ∧ ¬ (546 + 30 * an ≤ j ∧ j < 576 + 30 * an) ∧ j ≠ 786 + an ∧ ¬ (794 + 140 * an ≤ j ∧ j < 934 + 140 * an)) → s2 j = s j := fun j b1 b2 b3 b4 => h j b1 b2 b3 (by unfold lr9; omega)
  have hb : ib 0 120 (s (786 + nI l).toNatClampNeg) := mI.at (lo := 786) (hi := 793) (x := 0) (y := 120) hI (ib_add (ib_nI (n := 786) (by decide)) (ib_lit (n := l) (a := 0) (b := 7) (by omega) (by omega) (by omega)) (by decide) (by decide)) (by decide) (by decide) (by decide)
  have hc := (hb.clamp (by decide)).2
  have e1 : (786 + nI l : Int32).toNatClampNeg = 786 + l := by rw [show (786 : Int32) = nI 786 from rfl, cl2 (by omega)]
  unfold wfL at hw ⊢
  rw [e1] at hw hc ⊢
  rw [g (786 + l) (by omega) (by omega) (by omega) (by omega)]
  exact (wfGo_cg _ _ 0 (by omega) (fun j a b => g j (by omega) (by omega) (by omega) (by omega))).mpr hw
theorem Rl.law {wd w2 : WT} {s s2 : Nat → Int32} (h : Rl wd s) {an : Nat} (han : an < 8) (e1 : wCh w2 = wCh wd) (e2 : wAs w2 = wAs wd) (e3 : wAn w2 = wAn wd) (e5 : (wTp w2).1 = 0) (ean : wLc wd = an) (hn : ∀ j, j ≠ 3 → j ≠ 4 → j ≠ 482 + an → j ≠ 490 + an → ¬ lr9 an j → s2 j = s j) (h4 : s2 4 = 0) (hl : ∀ l, l < an → wLw w2 l = wLw wd l) (h3 : s2 3 = nI (wLc w2)) (h8 : wLc w2 ≤ 8) (hw : ∀ l, l < wLc w2 → l < an ∨ lRel (wLw w2 l) s2 l) : Rl w2 s2 := by
  have c0 := h.c0
  have c1 := h.c1
  have c2 := h.c2
  have g : ∀ j, j < 482 → j ≠ 3 → j ≠ 4 → s2 j = s j := fun j a b c => hn j b c (by omega) (by omega) (by unfold lr9; omega)
  unfold Rl
  rw [e1, e2, e3, e5]
  refine ⟨⟨?_, c0.2⟩, ⟨?_, c1.2⟩, ⟨?_, c2.2⟩, ⟨h3, h8⟩, ⟨?_, Nat.zero_le _⟩, fun c hc => ⟨?_, fun k hk => ?_⟩, fun a ha j hj => ?_, fun a ha j hj => ?_, fun l hl9 => ?_, fun i hi => absurd hi (Nat.not_lt_zero _)⟩
  · rw [g _ (by decide) (by decide) (by decide)]; exact c0.1
  · rw [g _ (by decide) (by decide) (by decide)]; exact c1.1
  · rw [g _ (by decide) (by decide) (by decide)]; exact c2.1
  · rw [h4]; rfl
  · rw [g _ (by omega) (by omega) (by omega)]; exact (h.ch hc).1
  · rw [g _ (by omega) (by omega) (by omega)]; exact (h.ch hc).2 k hk
  · rw [g _ (by omega) (by omega) (by omega)]; exact h.as ha hj
  · rw [g _ (by omega) (by omega) (by omega)]; exact h.an ha hj
  · rcases hw l hl9 with z | z
    · rw [hl l z]
      exact lRel_cg2 (by omega) (by omega) (h.lw (by omega)) (fun j a b c d => hn j (by omega) (by omega) b c d) han
    · exact z
theorem mJ.law {s s2 : Nat → Int32} (h : mJ s) {an : Nat} (han : an < 8) (hI : mI s2) (hO : mO s2) (e3 : s 3 = nI an) (hn : ∀ j, j ≠ 3 → j ≠ 4 → j ≠ 482 + an → j ≠ 490 + an → ¬ lr9 an j → s2 j = s j) (hw : ∀ l : Nat, (l : Int) < (s2 3).toInt → l < an ∨ wfL s2 l) : mJ s2 := by
  have g : ∀ j, j < 482 → j ≠ 3 → j ≠ 4 → s2 j = s j := fun j a b c => hn j b c (by omega) (by omega) (by unfold lr9; omega)
  have h40 : ib 0 40 (s 2) := h.1 2 (2, 2, 0, 40) (by decide) (Nat.le_refl _) (Nat.le_refl _)
  have h40 := h40.2
  refine ⟨hI, hO, fun l hl => ?_, fun t ht => ?_⟩
  · rcases hw l hl with z | z
    · exact wfL_cg2 (by omega) (by omega) h.1 (fun j a b c d => hn j (by omega) (by omega) b c d) han (h.2.2.1 l (by rw [e3, nI_toInt (by omega)]; omega))
    · exact z
  · rw [g 2 (by decide) (by decide) (by decide)] at ht
    rw [g (282 + t) (by omega) (by omega) (by omega), g 0 (by decide) (by decide) (by decide), g (322 + t) (by omega) (by omega) (by omega), g 1 (by decide) (by decide) (by decide)]
    exact h.2.2.2 t ht

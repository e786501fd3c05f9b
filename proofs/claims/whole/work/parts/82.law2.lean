/-! law: alike, and what it leaves is alike -/
theorem lwZ_lt {wd : WT} {pl : Nat} {x : LawT} {l : Nat} (h : l ≠ wLc wd) : wLw (lwZ wd pl x) l = wLw wd l := by
  show (if l = wLc wd then x else wLw wd l) = _
  rw [if_neg h]
theorem lw4_lt {wd : WT} {pl : Nat} {x : LawT} {kind vv : Int32} {l : Nat} (h : l ≠ wLc wd) : wLw (lw4 wd pl x kind vv) l = wLw wd l := by
  show (if l = wLc wd then _ else if l = wLc wd then _ else if l = wLc wd then _ else if l = wLc wd then x else wLw wd l) = _
  rw [if_neg h, if_neg h, if_neg h, if_neg h]
theorem set_an (w : WT) (i : Nat) (y : LawT) : wLw (wSetLw w i y) i = y := by
  show (if i = i then y else wLw w i) = y
  rw [if_pos rfl]
theorem lw4_an (wd : WT) (pl : Nat) (x : LawT) (kind vv : Int32) : wLw (lw4 wd pl x kind vv) (wLc wd) = (nI (wLc wd), kind, vv, x.2.2.2) := by
  have e0 : wLw (lwZ wd pl x) (wLc wd) = x := set_an _ _ _
  have e1 : wLw (lw1 wd pl x) (wLc wd) = lSet3 (wLw (lwZ wd pl x) (wLc wd)) (nI (wLc wd)) (lKind (wLw (lwZ wd pl x) (wLc wd))) (lV (wLw (lwZ wd pl x) (wLc wd))) := set_an _ _ _
  rw [e0] at e1
  have e2 : wLw (lw2 wd pl x kind) (wLc wd) = lSet3 (wLw (lw1 wd pl x) (wLc wd)) (lNum (wLw (lw1 wd pl x) (wLc wd))) kind (lV (wLw (lw1 wd pl x) (wLc wd))) := set_an _ _ _
  rw [e1] at e2
  have e3 : wLw (lw3 wd pl x kind vv) (wLc wd) = lSet3 (wLw (lw2 wd pl x kind) (wLc wd)) (lNum (wLw (lw2 wd pl x kind) (wLc wd))) (lKind (wLw (lw2 wd pl x kind) (wLc wd))) vv := set_an _ _ _
  rw [e2] at e3
  exact e3
theorem kind_ib {k : Int32} (h : f_isKind k = true) : ib 0 6 k := by
  obtain ⟨n, rfl, hn⟩ := kind_ex h
  exact ib_lit (by omega) (by omega) (by omega)
/-- what a law that was read leaves -/
theorem law_ok {wd : WT} {s R s0 : Nat → Int32} (hR : Rl wd s) (hJ : mJ s) {an : Nat} (ean : wLc wd = an) (han : an < 8) {kind vv : Int32} (r1 : R 4 = 0) (r2 : R (482 + an) = kind) (r3 : R (490 + an) = vv) (r8 : ∀ j, j ≠ 4 → j ≠ 482 + an → j ≠ 490 + an → ¬ lr9 an j → R j = s j) (n4 : ∀ j, ¬ lr9 an j → s0 j = R j) (hI : mI s0) (hO : mO s0) {pl : Nat} {x : LawT} {c2 : Nat} (hc : c2 ≤ 120) {bt : Nat → Int32} {sz : Nat} (hp : pc9 sz an bt x s0 c2 10) : Rl (lw4 wd pl x kind vv) (upd s0 3 (s0 3 + 1)) ∧ mJ (upd s0 3 (s0 3 + 1)) := by
  have e3 : s0 3 = nI an := by
    rw [n4 3 (by unfold lr9; omega), r8 3 (by omega) (by omega) (by omega) (by unfold lr9; omega), hR.c3.1, ean]
  rw [e3, nI_1]
  have n5 : ∀ j, j ≠ 3 → upd s0 3 (nI (an + 1)) j = s0 j := fun j z => pk_un z
  have hn : ∀ j, j ≠ 3 → j ≠ 4 → j ≠ 482 + an → j ≠ 490 + an → ¬ lr9 an j → upd s0 3 (nI (an + 1)) j = s j := fun j a b c d e => by rw [n5 j a, n4 j e, r8 j b c d e]
  obtain ⟨⟨p1, p2, p3, p4⟩, p5, p6, ⟨p7, p8⟩, p9, p10⟩ := hp
  refine ⟨Rl.law (w2 := lw4 wd pl x kind vv) hR han rfl rfl rfl rfl ean hn ?_ (fun l hl => lw4_lt (by omega)) ?_ ?_ (fun l hl => ?_), mJ.law hJ han (hI.putR (lo := 3) (hi := 3) (x := 0) (y := 8) (by decide) (by omega) (by omega) (ib_lit (by omega) (by omega) (by omega))) (hO.cg (fun j a b => n5 j (by omega))) (by rw [hR.c3.1, ean]) hn (fun l hl => ?_)⟩
  · rw [n5 4 (by decide), n4 4 (by unfold lr9; omega), r1]
  · show upd s0 3 (nI (an + 1)) 3 = nI (wLc wd + 1)
    rw [pk_us, ean]
  · show wLc wd + 1 ≤ 8
    omega
  · have hl : l < wLc wd + 1 := hl
    rcases Nat.lt_or_ge l an with z | z
    · exact .inl z
    · right
      have hl2 : l = wLc wd := by omega
      subst hl2
      rw [lw4_an]
      subst ean
      refine ⟨rfl, ?_, ?_, ?_, fun k hk => ?_, ⟨?_, p8⟩, fun i hi j hj => ?_, ⟨?_, by show lSc x ≤ 120; rw [p2]; exact hc⟩, fun i hi => ?_⟩
      · rw [n5 _ (by omega), n4 _ (by unfold lr9; omega)]; exact r2.symm
      · rw [n5 _ (by omega), n4 _ (by unfold lr9; omega)]; exact r3.symm
      · rw [n5 _ (by omega)]; exact p5
      · rw [n5 _ (by omega)]; exact p6 k hk
      · rw [n5 _ (by omega)]; exact p7
      · have hi : i < (lOv x).1 := hi
        rw [n5 _ (by omega)]; exact p9 i hi j hj
      · show _ = nI (lSc x)
        rw [n5 _ (by omega), p2]; exact p3
      · have hi : i < lSc x := hi
        rw [p2] at hi
        rw [n5 _ (by omega)]; exact p4 i hi
  · rw [pk_us, nI_toInt (by omega)] at hl
    rcases Nat.lt_or_ge l an with z | z
    · exact .inl z
    · right
      have hl2 : l = an := by omega
      subst hl2
      have e1 : (786 + nI l : Int32).toNatClampNeg = 786 + l := cell_at (b := 786) han (by decide)
      unfold wfL
      rw [e1, n5 _ (by omega), p3, nI_clamp (by omega)]
      have := okS_wf (s := s0) (b := 794 + 140 * l) 0 c2 0 0 (by omega) p10
      exact (wfGo_cg _ _ 0 (by omega) (fun j a b => n5 j (by omega))).mpr this
theorem law_no {wd : WT} {s R s0 : Nat → Int32} (hR : Rl wd s) (hJ : mJ s) {an : Nat} (ean : wLc wd = an) (han : an < 8) {kind vv : Int32} (r1 : R 4 = 0) (r8 : ∀ j, j ≠ 4 → j ≠ 482 + an → j ≠ 490 + an → ¬ lr9 an j → R j = s j) (n4 : ∀ j, ¬ lr9 an j → s0 j = R j) (hI : mI s0) (hO : mO s0) {pl : Nat} {x : LawT} : Rl (lwZ wd pl x) s0 ∧ mJ s0 := by
  have e3 : s0 3 = nI an := by
    rw [n4 3 (by unfold lr9; omega), r8 3 (by omega) (by omega) (by omega) (by unfold lr9; omega), hR.c3.1, ean]
  have hn : ∀ j, j ≠ 3 → j ≠ 4 → j ≠ 482 + an → j ≠ 490 + an → ¬ lr9 an j → s0 j = s j := fun j a b c d e => by rw [n4 j e, r8 j b c d e]
  refine ⟨Rl.law (w2 := lwZ wd pl x) hR han rfl rfl rfl rfl ean hn ?_ (fun l hl => lwZ_lt (by omega)) ?_ ?_ (fun l hl => ?_), mJ.law hJ han hI hO (by rw [hR.c3.1, ean]) hn (fun l hl => ?_)⟩
  · rw [n4 4 (by unfold lr9; omega), r1]
  · show s0 3 = nI (wLc wd)
    rw [e3, ean]
  · show wLc wd ≤ 8
    omega
  · have hl : l < wLc wd := hl
    exact .inl (by omega)
  · rw [e3, nI_toInt (by omega)] at hl
    exact .inl (by omega)
theorem lawMain_eq (x : MT) (an en : Nat) (kind vv : Int32) (P : PF6) : r_lawMain x an en kind vv P = r_lawGo an en P 9 (r_clause an en P 0 false (r_lawRow x an kind vv)).1 (r_clause an en P 0 false (r_lawRow x an kind vv)).2.1 (r_clause an en P 0 false (r_lawRow x an kind vv)).2.2 := by
  unfold r_lawMain r_lawRow
  dsimp only
theorem readInto_eq (sz : Nat) (bt : Nat → Int32) (pl : Nat) (x : LawT) : q_readInto sz bt pl x = q_intoGo sz bt (9 + 1) 1 0 (g_clear x) := by
  unfold q_readInto
  rw [show 11 - 1 = 9 + 1 from rfl]
theorem eq_law {wd wt : WT} {tk : Bool} {rn : Nat} {bo : Nat → Int32} {x : MT} (h : Inv9 wd wt tk rn bo x) (kind vv : Int32) : (s_law wd kind vv).1 = (r_law x kind vv).1 ∧ ∀ y, mEq x y (r_law x kind vv).2 → Inv9 (s_law wd kind vv).2 wt tk rn bo y := by
  obtain ⟨hR, hJ, hB, hB2, ht, htk, h1, h2, h3⟩ := h
  have fin : ∀ {w2 : WT} {s2 : Nat → Int32}, Rl w2 s2 → mJ s2 → byF (wTp w2).2.2 → ∀ y, mEq x y s2 → Inv9 w2 wt tk rn bo y := fun a b c y e => by
    obtain ⟨e1, e2, e3, e4, e5⟩ := e
    exact ⟨by rw [e1]; exact a, by rw [e1]; exact b, c, hB2, by rw [e3]; exact ht, by rw [e2]; exact htk, by rw [e5]; exact h1, h2, by rw [e4]; exact h3⟩
  unfold s_law r_law
  rw [isKind_in7]
  by_cases q1 : r_in kind 0 6 = true
  · rw [if_pos q1, if_pos q1]
    rw [in_twoL vv 0 9]
    by_cases q2 : r_in vv 0 9 = true
    · rw [if_pos q2, if_pos q2]
      obtain ⟨an, ean⟩ : ∃ an, wLc wd = an := ⟨_, rfl⟩
      have h8 := hR.c3.2
      have e3 : mS x 3 = nI an := by rw [hR.c3.1, ean]
      by_cases q3 : an < 8
      · have n8 : ¬ mS x 3 = 8 := by rw [e3]; exact an8 q3
        rw [if_pos (show nI (wLc wd) < 8 from nI_lt (b := 8) (by omega) (by decide)), if_neg n8]
        have h120 := hR.c4.2
        have eN : laN x = an := by
          show (mS x 3).toNatClampNeg = an
          rw [e3, nI_clamp (by omega)]
        have eE : laE x = (wTp wd).1 := by
          show (mS x 4).toNatClampNeg = _
          rw [hR.c4.1, nI_clamp (by omega)]
        unfold r_lawR
        rw [eN, eE]
        have es9 := eith_sim (an := an) (bt := (wTp wd).2.2) q3 h120
        have pw : ∀ (sp9 : Nat) (sv9 : Nat → Int32), r_som an (wTp wd).1 5 sp9 true sv9 = (sp9, true, sv9) := pWr_som an (wTp wd).1 5
        generalize r_som an (wTp wd).1 5 = Q at es9 pw ⊢
        rw [lawMain_eq]
        generalize eRow : r_lawRow x an kind vv = R
        obtain ⟨r1, r2, r3, r4, r5, r6, r7, r8, r9, r10⟩ := row_f x q3 kind vv eRow
        have hRI : mI R := r9 hJ.1 (in9_ib q1) (in9_ib q2)
        have hRO : mO R := hJ.2.1.cg r10
        have hpc : pc9 (wTp wd).1 an (wTp wd).2.2 (g_clear (wLw wd (wLc wd))) R 0 0 := by
          refine ⟨⟨fun i hi => ?_, rfl, r6, fun i hi => absurd hi (Nat.not_lt_zero _)⟩, r4.symm, fun k hk => ?_, ⟨r5, Nat.le_refl _⟩, fun i hi => absurd hi (Nat.not_lt_zero _), rfl⟩
          · rw [r8 _ (by omega) (by omega) (by omega) (by unfold lr9; omega)]
            exact hR.tp hi
          · rw [r7 k hk]
            match k, hk with
            | 0, _ => rfl
            | 1, _ => rfl
            | 2, _ => rfl
            | 3, _ => rfl
        have hl := into_sim q3 h120 Q es9 pw 9 1 0 (g_clear (wLw wd (wLc wd))) R 0 rfl (Nat.le_refl _) (Nat.zero_le _) hpc (Nat.le_refl _)
        rw [readInto_eq]
        generalize q_intoGo (wTp wd).1 (wTp wd).2.2 (9 + 1) 1 0 (g_clear (wLw wd (wLc wd))) = A at hl ⊢
        generalize r_lawGo an (wTp wd).1 Q 9 (r_clause an (wTp wd).1 Q 0 false R).1 (r_clause an (wTp wd).1 Q 0 false R).2.1 (r_clause an (wTp wd).1 Q 0 false R).2.2 = B at hl ⊢
        obtain ⟨b, p2, x2⟩ := A
        obtain ⟨v, s3, w3, sf⟩ := B
        obtain ⟨n1, n2, s0, n3, n4, n5, n6, n7⟩ := hl
        dsimp only at n1 n2 n3 n7 ⊢
        cases b with
        | false =>
          rw [if_neg (by decide)] at n1 n3
          subst n1 n3
          rw [if_neg (by decide)]
          obtain ⟨g1, g2⟩ := law_no (kind := kind) (vv := vv) hR hJ ean q3 r1 r8 n4 (n5 hRI) (n6 hRO) (pl := p2) (x := x2)
          exact ⟨rfl, fin g1 g2 hB⟩
        | true =>
          rw [if_pos rfl] at n1 n3
          subst n1 n3
          rw [if_pos rfl]
          obtain ⟨c2, m1, m2⟩ := n7 rfl
          obtain ⟨g1, g2⟩ := law_ok (kind := kind) (vv := vv) hR hJ ean q3 r1 r2 r3 r8 n4 (n5 hRI) (n6 hRO) (pl := p2) (x := x2) m1 m2
          refine ⟨?_, fin g1 g2 hB⟩
          show lNum (wLw (lw4 wd p2 x2 kind vv) (wLc wd)) = nI an
          rw [lw4_an, ean]
      · have y8 : mS x 3 = 8 := by rw [e3, show an = 8 by omega]; rfl
        rw [if_neg (show ¬ nI (wLc wd) < 8 from nI_nlt (a := wLc wd) (b := 8) (by omega) (by omega)), if_pos y8]
        exact ⟨rfl, fin hR hJ hB⟩
    · rw [if_neg q2, if_neg q2]
      exact ⟨rfl, fin hR hJ hB⟩
  · rw [if_neg q1, if_neg q1]
    exact ⟨rfl, fin hR hJ hB⟩

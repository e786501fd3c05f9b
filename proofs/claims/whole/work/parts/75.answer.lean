/-! asking, answer: alike, and what they leave is alike -/
theorem in_two {α : Type} (w a b : Int32) (A B : α) : (if w < a then A else if b < w then A else B) = if r_in w a b = true then B else A := by
  unfold r_in
  by_cases p : w < a
  · rw [if_pos p, if_pos p, if_neg (by decide)]
  · rw [if_neg p, if_neg p]
    by_cases q : b < w
    · rw [if_pos q, if_pos q, if_neg (by decide)]
    · rw [if_neg q, if_neg q, if_pos rfl]
theorem in_twoL {α : Type} (w a b : Int32) (A B : α) : (if w < a then A else if w ≤ b then B else A) = if r_in w a b = true then B else A := by
  by_cases p : w < a
  · rw [if_pos p, if_neg (ge9_in1 p)]
  · rw [if_neg p]
    by_cases q : w ≤ b
    · rw [if_pos q, if_pos (ge9_in p q)]
    · rw [if_neg q, if_neg (ge9_in2 p q)]
theorem in9_ib {w a b : Int32} (h : r_in w a b = true) : ib a.toInt b.toInt w := (inS_iff w a b).mp h
theorem b2i_ib (b : Bool) : ib 0 1 (b2i b) := by cases b <;> exact ⟨by decide, by decide⟩
theorem b2i_if (b : Bool) : b2i (if b = true then true else false) = b2i b := by cases b <;> rfl
theorem stuff_ib {k : Int32} (h : f_isStuff k = true) : ib 0 3 k := by
  obtain ⟨n, rfl, hn⟩ := stuff_ex h
  exact ib_lit (by omega) (by omega) (by omega)
theorem s_asking_eq (wd : WT) (stuff moved times : Int32) (eat : Bool) (word looks truly : Int32) : s_asking wd stuff moved times eat word looks truly = if f_isStuff stuff = true then if r_in moved 0 2 = true then if r_in times 1 2 = true then if r_in word 0 3 = true then if r_in looks (-9) 9 = true then if r_in truly (-1) 1 = true then if f_isFull 16 (wAs wd) = true then (-4, wd) else (f_add 16 (wAs wd), wSetAs wd (g_put 7 (g_put 7 (g_put 7 (g_put 7 (g_put 7 (g_put 7 (g_put 7 (g_add 16 (wAs wd)) (f_add 16 (wAs wd)) 0 stuff) (f_add 16 (wAs wd)) 1 moved) (f_add 16 (wAs wd)) 2 times) (f_add 16 (wAs wd)) 3 (b2i (if eat = true then true else false))) (f_add 16 (wAs wd)) 4 word) (f_add 16 (wAs wd)) 5 looks) (f_add 16 (wAs wd)) 6 truly)) else (-2, wd) else (-2, wd) else (-2, wd) else (-2, wd) else (-1, wd) else (-1, wd) := by
  unfold s_asking
  rw [in_twoL truly, in_two looks, in_two word, in_two times, in_twoL moved]
theorem ask9_F (f : Nat → Int32) (n : Nat) (v0 v1 v2 v3 v4 v5 v6 : Int32) (s : Nat → Int32) : ∀ j, j < 7 → (upd (upd (upd (upd (upd (upd (upd f (7 * n + 0) v0) (7 * n + 1) v1) (7 * n + 2) v2) (7 * n + 3) v3) (7 * n + 4) v4) (7 * n + 5) v5) (7 * n + 6) v6) (7 * n + j) = (upd (upd (upd (upd (upd (upd (upd s (170 + 16 * 0 + n) v0) (170 + 16 * 1 + n) v1) (170 + 16 * 2 + n) v2) (170 + 16 * 3 + n) v3) (170 + 16 * 4 + n) v4) (170 + 16 * 5 + n) v5) (170 + 16 * 6 + n) v6) (170 + 16 * j + n) := by
  intro j hj
  match j, hj with
  | 0, _ => rw [pk_un (by omega), pk_un (by omega), pk_un (by omega), pk_un (by omega), pk_un (by omega), pk_un (by omega), pk_us, pk_un (by omega), pk_un (by omega), pk_un (by omega), pk_un (by omega), pk_un (by omega), pk_un (by omega), pk_us]
  | 1, _ => rw [pk_un (by omega), pk_un (by omega), pk_un (by omega), pk_un (by omega), pk_un (by omega), pk_us, pk_un (by omega), pk_un (by omega), pk_un (by omega), pk_un (by omega), pk_un (by omega), pk_us]
  | 2, _ => rw [pk_un (by omega), pk_un (by omega), pk_un (by omega), pk_un (by omega), pk_us, pk_un (by omega), pk_un (by omega), pk_un (by omega), pk_un (by omega), pk_us]
  | 3, _ => rw [pk_un (by omega), pk_un (by omega), pk_un (by omega), pk_us, pk_un (by omega), pk_un (by omega), pk_un (by omega), pk_us]
  | 4, _ => rw [pk_un (by omega), pk_un (by omega), pk_us, pk_un (by omega), pk_un (by omega), pk_us]
  | 5, _ => rw [pk_un (by omega), pk_us, pk_un (by omega), pk_us]
  | 6, _ => rw [pk_us, pk_us]
theorem ask9_Fn (f : Nat → Int32) (n : Nat) (v0 v1 v2 v3 v4 v5 v6 : Int32) : ∀ j, j < 7 * n → (upd (upd (upd (upd (upd (upd (upd f (7 * n + 0) v0) (7 * n + 1) v1) (7 * n + 2) v2) (7 * n + 3) v3) (7 * n + 4) v4) (7 * n + 5) v5) (7 * n + 6) v6) j = f j := by
  intro j hj
  rw [pk_un (by omega), pk_un (by omega), pk_un (by omega), pk_un (by omega), pk_un (by omega), pk_un (by omega), pk_un (by omega)]
theorem ask9_Sn (s : Nat → Int32) {n : Nat} (hn : n < 16) (v0 v1 v2 v3 v4 v5 v6 : Int32) : ∀ j, (∀ i, i < 7 → j ≠ 170 + 16 * i + n) → (upd (upd (upd (upd (upd (upd (upd s (170 + 16 * 0 + n) v0) (170 + 16 * 1 + n) v1) (170 + 16 * 2 + n) v2) (170 + 16 * 3 + n) v3) (170 + 16 * 4 + n) v4) (170 + 16 * 5 + n) v5) (170 + 16 * 6 + n) v6) j = s j := by
  intro j h
  have h0 := h 0 (by decide)
  have h1 := h 1 (by decide)
  have h2 := h 2 (by decide)
  have h3 := h 3 (by decide)
  have h4 := h 4 (by decide)
  have h5 := h 5 (by decide)
  have h6 := h 6 (by decide)
  rw [pk_un (by omega), pk_un (by omega), pk_un (by omega), pk_un (by omega), pk_un (by omega), pk_un (by omega), pk_un (by omega)]
theorem ask9_I {s : Nat → Int32} (hI : mI s) {n : Nat} (hn : n < 16) {v0 v1 v2 v3 v4 v5 v6 : Int32} (h0 : ib (0) 3 v0) (h1 : ib (0) 2 v1) (h2 : ib (0) 2 v2) (h3 : ib (0) 1 v3) (h4 : ib (0) 3 v4) (h5 : ib (-9) 9 v5) (h6 : ib (-1) 1 v6) : mI (upd (upd (upd (upd (upd (upd (upd s (170 + 16 * 0 + n) v0) (170 + 16 * 1 + n) v1) (170 + 16 * 2 + n) v2) (170 + 16 * 3 + n) v3) (170 + 16 * 4 + n) v4) (170 + 16 * 5 + n) v5) (170 + 16 * 6 + n) v6) := by
  exact (((((((hI).putR (lo := 170) (hi := 185) (x := 0) (y := 3) (by decide) (by omega) (by omega) h0).putR (lo := 186) (hi := 201) (x := 0) (y := 2) (by decide) (by omega) (by omega) h1).putR (lo := 202) (hi := 217) (x := 0) (y := 2) (by decide) (by omega) (by omega) h2).putR (lo := 218) (hi := 233) (x := 0) (y := 1) (by decide) (by omega) (by omega) h3).putR (lo := 234) (hi := 249) (x := 0) (y := 3) (by decide) (by omega) (by omega) h4).putR (lo := 250) (hi := 265) (x := -9) (y := 9) (by decide) (by omega) (by omega) h5).putR (lo := 266) (hi := 281) (x := -1) (y := 1) (by decide) (by omega) (by omega) h6
theorem ans9_F (f : Nat → Int32) (n : Nat) (v0 v1 v2 v3 v4 : Int32) (s : Nat → Int32) : ∀ j, j < 5 → (upd (upd (upd (upd (upd f (5 * n + 0) v0) (5 * n + 1) v1) (5 * n + 2) v2) (5 * n + 3) v3) (5 * n + 4) v4) (5 * n + j) = (upd (upd (upd (upd (upd s (282 + 40 * 0 + n) v0) (282 + 40 * 1 + n) v1) (282 + 40 * 2 + n) v2) (282 + 40 * 3 + n) v3) (282 + 40 * 4 + n) v4) (282 + 40 * j + n) := by
  intro j hj
  match j, hj with
  | 0, _ => rw [pk_un (by omega), pk_un (by omega), pk_un (by omega), pk_un (by omega), pk_us, pk_un (by omega), pk_un (by omega), pk_un (by omega), pk_un (by omega), pk_us]
  | 1, _ => rw [pk_un (by omega), pk_un (by omega), pk_un (by omega), pk_us, pk_un (by omega), pk_un (by omega), pk_un (by omega), pk_us]
  | 2, _ => rw [pk_un (by omega), pk_un (by omega), pk_us, pk_un (by omega), pk_un (by omega), pk_us]
  | 3, _ => rw [pk_un (by omega), pk_us, pk_un (by omega), pk_us]
  | 4, _ => rw [pk_us, pk_us]
theorem ans9_Fn (f : Nat → Int32) (n : Nat) (v0 v1 v2 v3 v4 : Int32) : ∀ j, j < 5 * n → (upd (upd (upd (upd (upd f (5 * n + 0) v0) (5 * n + 1) v1) (5 * n + 2) v2) (5 * n + 3) v3) (5 * n + 4) v4) j = f j := by
  intro j hj
  rw [pk_un (by omega), pk_un (by omega), pk_un (by omega), pk_un (by omega), pk_un (by omega)]
theorem ans9_Sn (s : Nat → Int32) {n : Nat} (hn : n < 40) (v0 v1 v2 v3 v4 : Int32) : ∀ j, (∀ i, i < 5 → j ≠ 282 + 40 * i + n) → (upd (upd (upd (upd (upd s (282 + 40 * 0 + n) v0) (282 + 40 * 1 + n) v1) (282 + 40 * 2 + n) v2) (282 + 40 * 3 + n) v3) (282 + 40 * 4 + n) v4) j = s j := by
  intro j h
  have h0 := h 0 (by decide)
  have h1 := h 1 (by decide)
  have h2 := h 2 (by decide)
  have h3 := h 3 (by decide)
  have h4 := h 4 (by decide)
  rw [pk_un (by omega), pk_un (by omega), pk_un (by omega), pk_un (by omega), pk_un (by omega)]
theorem ans9_I {s : Nat → Int32} (hI : mI s) {n : Nat} (hn : n < 40) {v0 v1 v2 v3 v4 : Int32} (h0 : ib (0) 7 v0) (h1 : ib (0) 15 v1) (h2 : ib (0) 2 v2) (h3 : ib (0) 1 v3) (h4 : ib (0) 120 v4) : mI (upd (upd (upd (upd (upd s (282 + 40 * 0 + n) v0) (282 + 40 * 1 + n) v1) (282 + 40 * 2 + n) v2) (282 + 40 * 3 + n) v3) (282 + 40 * 4 + n) v4) := by
  exact (((((hI).putR (lo := 282) (hi := 321) (x := 0) (y := 7) (by decide) (by omega) (by omega) h0).putR (lo := 322) (hi := 361) (x := 0) (y := 15) (by decide) (by omega) (by omega) h1).putR (lo := 362) (hi := 401) (x := 0) (y := 2) (by decide) (by omega) (by omega) h2).putR (lo := 402) (hi := 441) (x := 0) (y := 1) (by decide) (by omega) (by omega) h3).putR (lo := 442) (hi := 481) (x := 0) (y := 120) (by decide) (by omega) (by omega) h4
theorem Rl.addAsk {wd : WT} {s : Nat → Int32} (hR : Rl wd s) (hJ : mJ s) {n : Nat} (ef : (wAs wd).1 = n) (hn : n < 16) {v0 v1 v2 v3 v4 v5 v6 : Int32} (h0 : ib 0 3 v0) (h1 : ib 0 2 v1) (h2 : ib 0 2 v2) (h3 : ib 0 1 v3) (h4 : ib 0 3 v4) (h5 : ib (-9) 9 v5) (h6 : ib (-1) 1 v6) : Rl (wSetAs wd (n + 1, upd (upd (upd (upd (upd (upd (upd (wAs wd).2 (7 * n + 0) v0) (7 * n + 1) v1) (7 * n + 2) v2) (7 * n + 3) v3) (7 * n + 4) v4) (7 * n + 5) v5) (7 * n + 6) v6)) (upd (upd (upd (upd (upd (upd (upd (upd s (170 + 16 * 0 + n) v0) (170 + 16 * 1 + n) v1) (170 + 16 * 2 + n) v2) (170 + 16 * 3 + n) v3) (170 + 16 * 4 + n) v4) (170 + 16 * 5 + n) v5) (170 + 16 * 6 + n) v6) 1 (nI (n + 1))) ∧ mJ (upd (upd (upd (upd (upd (upd (upd (upd s (170 + 16 * 0 + n) v0) (170 + 16 * 1 + n) v1) (170 + 16 * 2 + n) v2) (170 + 16 * 3 + n) v3) (170 + 16 * 4 + n) v4) (170 + 16 * 5 + n) v5) (170 + 16 * 6 + n) v6) 1 (nI (n + 1))) := by
  have f1 := ask9_F (wAs wd).2 n v0 v1 v2 v3 v4 v5 v6 s
  have f2 := ask9_Fn (wAs wd).2 n v0 v1 v2 v3 v4 v5 v6
  have f3 := ask9_Sn s hn v0 v1 v2 v3 v4 v5 v6
  have f4 := ask9_I hJ.1 hn h0 h1 h2 h3 h4 h5 h6
  generalize upd (upd (upd (upd (upd (upd (upd (wAs wd).2 (7 * n + 0) v0) (7 * n + 1) v1) (7 * n + 2) v2) (7 * n + 3) v3) (7 * n + 4) v4) (7 * n + 5) v5) (7 * n + 6) v6 = F at *
  generalize upd (upd (upd (upd (upd (upd (upd s (170 + 16 * 0 + n) v0) (170 + 16 * 1 + n) v1) (170 + 16 * 2 + n) v2) (170 + 16 * 3 + n) v3) (170 + 16 * 4 + n) v4) (170 + 16 * 5 + n) v5) (170 + 16 * 6 + n) v6 = S at *
  have n5 : ∀ j, j ≠ 1 → upd S 1 (nI (n + 1)) j = S j := fun j z => pk_un z
  have n6 : ∀ j, j ≠ 1 → (∀ i, i < 7 → j ≠ 170 + 16 * i + n) → upd S 1 (nI (n + 1)) j = s j := fun j z y => (n5 j z).trans (f3 j y)
  have c0 := hR.c0.2
  have c2 := hR.c2.2
  have c3 := hR.c3.2
  have c4 := hR.c4.2
  refine ⟨⟨⟨?_, hR.c0.2⟩, ⟨pk_us, show n + 1 ≤ 16 by omega⟩, ⟨?_, hR.c2.2⟩, ⟨?_, hR.c3.2⟩, ⟨?_, hR.c4.2⟩, fun d hd => ⟨?_, fun k hk => ?_⟩, fun a ha j hj => ?_, fun a ha j hj => ?_, fun l hl => ?_, fun i hi => ?_⟩, ?_⟩
  · rw [n6 0 (by decide) (fun i _ => by omega)]; exact hR.c0.1
  · rw [n6 2 (by decide) (fun i _ => by omega)]; exact hR.c2.1
  · rw [n6 3 (by decide) (fun i _ => by omega)]; exact hR.c3.1
  · rw [n6 4 (by decide) (fun i _ => by omega)]; exact hR.c4.1
  · have hd : d < (wCh wd).1 := hd
    rw [n6 _ (by omega) (fun i _ => by omega)]; exact (hR.ch hd).1
  · have hd : d < (wCh wd).1 := hd
    rw [n6 _ (by omega) (fun i _ => by omega)]; exact (hR.ch hd).2 k hk
  · have ha : a < n + 1 := ha
    show F (7 * a + j) = _
    by_cases z : a = n
    · subst z
      rw [n5 _ (by omega)]
      exact f1 j hj
    · rw [f2 _ (by omega), n6 _ (by omega) (fun i _ => by omega)]
      exact hR.as (show a < (wAs wd).1 by omega) hj
  · have ha : a < (wAn wd).1 := ha
    rw [n6 _ (by omega) (fun i _ => by omega)]; exact hR.an ha hj
  · exact lRel_cg (by have hl : l < wLc wd := hl; omega) (hR.lw hl) (fun j a _ => n6 j (by omega) (fun i _ => by omega))
  · have hi : i < (wTp wd).1 := hi
    rw [n6 _ (by omega) (fun i _ => by omega)]; exact hR.tp hi
  · refine mJ_hi hJ (f4.putR (lo := 1) (hi := 1) (x := 0) (y := 16) (by decide) (by omega) (by omega) (ib_lit (by omega) (by omega) (by omega))) (n6 3 (by decide) (fun i _ => by omega)) (fun j a _ => n6 j (by omega) (fun i _ => by omega)) (fun t ht => ?_)
    have h40 : ib 0 40 (s 2) := hJ.1 2 (2, 2, 0, 40) (by decide) (Nat.le_refl _) (Nat.le_refl _)
    have h40 := h40.2
    rw [n6 2 (by omega) (fun i _ => by omega)] at ht
    have z := hJ.2.2.2 t ht
    rw [n6 (282 + t) (by omega) (fun i _ => by omega), n6 0 (by omega) (fun i _ => by omega), n6 (322 + t) (by omega) (fun i _ => by omega), pk_us, nI_toInt (by omega)]
    rw [hR.c1.1, ef, nI_toInt (by omega)] at z
    exact ⟨z.1, by have := z.2; omega⟩
theorem Rl.addAns {wd : WT} {s : Nat → Int32} (hR : Rl wd s) (hJ : mJ s) {n : Nat} (ef : (wAn wd).1 = n) (hn : n < 40) {c a9 : Nat} (hc : c < (wCh wd).1) (ha9 : a9 < (wAs wd).1) {v0 v1 v2 v3 v4 : Int32} (e0 : v0 = nI c) (e1 : v1 = nI a9) (h2 : ib 0 2 v2) (h3 : ib 0 1 v3) (h4 : ib 0 120 v4) : Rl (wSetAn wd (n + 1, upd (upd (upd (upd (upd (wAn wd).2 (5 * n + 0) v0) (5 * n + 1) v1) (5 * n + 2) v2) (5 * n + 3) v3) (5 * n + 4) v4)) (upd (upd (upd (upd (upd (upd s (282 + 40 * 0 + n) v0) (282 + 40 * 1 + n) v1) (282 + 40 * 2 + n) v2) (282 + 40 * 3 + n) v3) (282 + 40 * 4 + n) v4) 2 (nI (n + 1))) ∧ mJ (upd (upd (upd (upd (upd (upd s (282 + 40 * 0 + n) v0) (282 + 40 * 1 + n) v1) (282 + 40 * 2 + n) v2) (282 + 40 * 3 + n) v3) (282 + 40 * 4 + n) v4) 2 (nI (n + 1))) := by
  have c0 := hR.c0.2
  have c1 := hR.c1.2
  have c3 := hR.c3.2
  have c4 := hR.c4.2
  have f1 := ans9_F (wAn wd).2 n v0 v1 v2 v3 v4 s
  have f2 := ans9_Fn (wAn wd).2 n v0 v1 v2 v3 v4
  have f3 := ans9_Sn s hn v0 v1 v2 v3 v4
  have f4 := ans9_I hJ.1 hn (v0 := v0) (v1 := v1) (by rw [e0]; exact ib_lit (by omega) (by omega) (by omega)) (by rw [e1]; exact ib_lit (by omega) (by omega) (by omega)) h2 h3 h4
  have g0 : (upd (upd (upd (upd (upd s (282 + 40 * 0 + n) v0) (282 + 40 * 1 + n) v1) (282 + 40 * 2 + n) v2) (282 + 40 * 3 + n) v3) (282 + 40 * 4 + n) v4) (282 + n) = v0 := by rw [pk_un (by omega), pk_un (by omega), pk_un (by omega), pk_un (by omega), show 282 + n = 282 + 40 * 0 + n by omega]; exact pk_us
  have g1 : (upd (upd (upd (upd (upd s (282 + 40 * 0 + n) v0) (282 + 40 * 1 + n) v1) (282 + 40 * 2 + n) v2) (282 + 40 * 3 + n) v3) (282 + 40 * 4 + n) v4) (322 + n) = v1 := by rw [pk_un (by omega), pk_un (by omega), pk_un (by omega), show 322 + n = 282 + 40 * 1 + n by omega]; exact pk_us
  generalize upd (upd (upd (upd (upd (wAn wd).2 (5 * n + 0) v0) (5 * n + 1) v1) (5 * n + 2) v2) (5 * n + 3) v3) (5 * n + 4) v4 = F at *
  generalize upd (upd (upd (upd (upd s (282 + 40 * 0 + n) v0) (282 + 40 * 1 + n) v1) (282 + 40 * 2 + n) v2) (282 + 40 * 3 + n) v3) (282 + 40 * 4 + n) v4 = S at *
  have n5 : ∀ j, j ≠ 2 → upd S 2 (nI (n + 1)) j = S j := fun j z => pk_un z
  have n6 : ∀ j, j ≠ 2 → (∀ i, i < 5 → j ≠ 282 + 40 * i + n) → upd S 2 (nI (n + 1)) j = s j := fun j z y => (n5 j z).trans (f3 j y)
  refine ⟨⟨⟨?_, hR.c0.2⟩, ⟨?_, hR.c1.2⟩, ⟨pk_us, show n + 1 ≤ 40 by omega⟩, ⟨?_, hR.c3.2⟩, ⟨?_, hR.c4.2⟩, fun d hd => ⟨?_, fun k hk => ?_⟩, fun a ha j hj => ?_, fun a ha j hj => ?_, fun l hl => ?_, fun i hi => ?_⟩, ?_⟩
  · rw [n6 0 (by decide) (fun i _ => by omega)]; exact hR.c0.1
  · rw [n6 1 (by decide) (fun i _ => by omega)]; exact hR.c1.1
  · rw [n6 3 (by decide) (fun i _ => by omega)]; exact hR.c3.1
  · rw [n6 4 (by decide) (fun i _ => by omega)]; exact hR.c4.1
  · have hd : d < (wCh wd).1 := hd
    rw [n6 _ (by omega) (fun i _ => by omega)]; exact (hR.ch hd).1
  · have hd : d < (wCh wd).1 := hd
    rw [n6 _ (by omega) (fun i _ => by omega)]; exact (hR.ch hd).2 k hk
  · have ha : a < (wAs wd).1 := ha
    rw [n6 _ (by omega) (fun i _ => by omega)]; exact hR.as ha hj
  · have ha : a < n + 1 := ha
    show F (5 * a + j) = _
    by_cases z : a = n
    · subst z
      rw [n5 _ (by omega)]
      exact f1 j hj
    · rw [f2 _ (by omega), n6 _ (by omega) (fun i _ => by omega)]
      exact hR.an (show a < (wAn wd).1 by omega) hj
  · exact lRel_cg (by have hl : l < wLc wd := hl; omega) (hR.lw hl) (fun j a _ => n6 j (by omega) (fun i _ => by omega))
  · have hi : i < (wTp wd).1 := hi
    rw [n6 _ (by omega) (fun i _ => by omega)]; exact hR.tp hi
  · refine mJ_hi hJ (f4.putR (lo := 2) (hi := 2) (x := 0) (y := 40) (by decide) (by omega) (by omega) (ib_lit (by omega) (by omega) (by omega))) (n6 3 (by decide) (fun i _ => by omega)) (fun j a _ => n6 j (by omega) (fun i _ => by omega)) (fun t ht => ?_)
    rw [pk_us, nI_toInt (by omega)] at ht
    rw [n6 0 (by omega) (fun i _ => by omega), n6 1 (by omega) (fun i _ => by omega)]
    by_cases z : t = n
    · subst z
      rw [n5 (282 + t) (by omega), n5 (322 + t) (by omega), g0, g1, e0, e1, hR.c0.1, hR.c1.1, nI_toInt (by omega), nI_toInt (by omega), nI_toInt (by omega), nI_toInt (by omega)]
      omega
    · rw [n6 (282 + t) (by omega) (fun i _ => by omega), n6 (322 + t) (by omega) (fun i _ => by omega)]
      exact hJ.2.2.2 t (by rw [hR.c2.1, nI_toInt (by omega)]; omega)
theorem eq_asking {wd : WT} {x : MT} (hJ : mJ (mS x)) (hR : Rl wd (mS x)) (stuff moved times : Int32) (eat : Bool) (word looks truly : Int32) : wOk (s_asking wd stuff moved times eat word looks truly).1 (r_asking x stuff moved times eat word looks truly).1 wd (s_asking wd stuff moved times eat word looks truly).2 (r_asking x stuff moved times eat word looks truly).2 := by
  have h16 := hR.c1.2
  rw [s_asking_eq]
  unfold r_asking
  rw [isStuff_eq]
  by_cases q1 : f_isStuff stuff = true
  · rw [if_pos q1, if_pos q1]
    by_cases q2 : r_in moved 0 2 = true
    · rw [if_pos q2, if_pos q2]
      by_cases q3 : r_in times 1 2 = true
      · rw [if_pos q3, if_pos q3]
        by_cases q4 : r_in word 0 3 = true
        · rw [if_pos q4, if_pos q4]
          by_cases q5 : r_in looks (-9) 9 = true
          · rw [if_pos q5, if_pos q5]
            by_cases q6 : r_in truly (-1) 1 = true
            · rw [if_pos q6, if_pos q6]
              have e0 : mS x (1 : Int32).toNatClampNeg = nI (wAs wd).1 := hR.c1.1
              have fl := full_n (nm := 16) (x := wAs wd) h16 (by decide)
              rw [e0]
              by_cases f : f_isFull 16 (wAs wd) = true
              · rw [if_pos f, if_pos (show nI (wAs wd).1 = 16 from fl.mp f)]
                exact wOk.no hR hJ
              · have f2 : ¬ nI (wAs wd).1 = 16 := fun z => f (fl.mpr z)
                rw [if_neg f, if_neg f2]
                obtain ⟨n, ef⟩ : ∃ n, (wAs wd).1 = n := ⟨_, rfl⟩
                have hn : n < 16 := by
                  rcases Nat.lt_or_ge n 16 with w | w
                  · exact w
                  · exact absurd (show nI (wAs wd).1 = 16 by rw [ef, show n = 16 by omega]; rfl) f2
                obtain ⟨a1, a2⟩ := add_n (nm := 16) (n := (wAs wd).1) (f := (wAs wd).2) (by omega) (by decide)
                have a1 : g_add 16 (wAs wd) = ((wAs wd).1 + 1, (wAs wd).2) := a1
                have a2 : f_add 16 (wAs wd) = nI (wAs wd).1 := a2
                have k0 : ∀ b, b ≤ 1000 → (nI b + nI n).toNatClampNeg = b + n := fun b hb => cl2 (by omega)
                rw [ef, show ((170 : Int32) + nI n).toNatClampNeg = 170 + 16 * 0 + n from k0 170 (by decide), show ((186 : Int32) + nI n).toNatClampNeg = 170 + 16 * 1 + n from k0 186 (by decide), show ((202 : Int32) + nI n).toNatClampNeg = 170 + 16 * 2 + n from k0 202 (by decide), show ((218 : Int32) + nI n).toNatClampNeg = 170 + 16 * 3 + n from k0 218 (by decide), show ((234 : Int32) + nI n).toNatClampNeg = 170 + 16 * 4 + n from k0 234 (by decide), show ((250 : Int32) + nI n).toNatClampNeg = 170 + 16 * 5 + n from k0 250 (by decide), show ((266 : Int32) + nI n).toNatClampNeg = 170 + 16 * 6 + n from k0 266 (by decide)]
                have eS := ask9_Sn (mS x) hn stuff moved times (b2i (if eat = true then true else false)) word looks truly 1 (fun i _ => by omega)
                rw [show ((1 : Int32).toNatClampNeg) = 1 from rfl, eS, hR.c1.1, ef, nI_1, a1, a2, ef]
                have gp : ∀ (f : Nat → Int32) (c : Nat) (v : Int32), c < 7 → g_put 7 (n + 1, f) (nI n) (nI c) v = (n + 1, upd f (7 * n + c) v) := fun f c v hc => g_put_n (by omega) (by omega) (by decide) hc
                rw [show g_put 7 (n + 1, (wAs wd).2) (nI n) 0 stuff = _ from gp _ 0 _ (by decide), show ∀ f v, g_put 7 (n + 1, f) (nI n) 1 v = _ from fun f v => gp f 1 v (by decide), show ∀ f v, g_put 7 (n + 1, f) (nI n) 2 v = _ from fun f v => gp f 2 v (by decide), show ∀ f v, g_put 7 (n + 1, f) (nI n) 3 v = _ from fun f v => gp f 3 v (by decide), show ∀ f v, g_put 7 (n + 1, f) (nI n) 4 v = _ from fun f v => gp f 4 v (by decide), show ∀ f v, g_put 7 (n + 1, f) (nI n) 5 v = _ from fun f v => gp f 5 v (by decide), show ∀ f v, g_put 7 (n + 1, f) (nI n) 6 v = _ from fun f v => gp f 6 v (by decide)]
                have h := hR.addAsk hJ ef hn (stuff_ib q1) (in9_ib q2) ((in9_ib q3).weak (by decide) (by decide)) (show ib 0 1 (b2i (if eat = true then true else false)) from b2i_ib _) (in9_ib q4) (in9_ib q5) (in9_ib q6)
                exact ⟨rfl, h.1, h.2, rfl⟩
            · rw [if_neg q6, if_neg q6]
              exact wOk.no hR hJ
          · rw [if_neg q5, if_neg q5]
            exact wOk.no hR hJ
        · rw [if_neg q4, if_neg q4]
          exact wOk.no hR hJ
      · rw [if_neg q3, if_neg q3]
        exact wOk.no hR hJ
    · rw [if_neg q2, if_neg q2]
      exact wOk.no hR hJ
  · rw [if_neg q1, if_neg q1]
    exact wOk.no hR hJ
theorem s_answer_eq (wd : WT) (child asking said : Int32) (why : Bool) : s_answer wd child asking said why = if f_has (wCh wd) child = true then if f_has (wAs wd) asking = true then if r_in said 0 2 = true then if f_isFull 40 (wAn wd) = true then (-4, wd) else (f_add 40 (wAn wd), wSetAn wd (g_put 5 (g_put 5 (g_put 5 (g_put 5 (g_put 5 (g_add 40 (wAn wd)) (f_add 40 (wAn wd)) 0 child) (f_add 40 (wAn wd)) 1 asking) (f_add 40 (wAn wd)) 2 said) (f_add 40 (wAn wd)) 3 (b2i (if why = true then true else false))) (f_add 40 (wAn wd)) 4 (f_at 5 (wCh wd) child 0))) else (-2, wd) else (-1, wd) else (-1, wd) := by
  unfold s_answer
  rw [in_twoL said]
theorem eq_answer {wd : WT} {x : MT} (hJ : mJ (mS x)) (hR : Rl wd (mS x)) (child asking said : Int32) (why : Bool) : wOk (s_answer wd child asking said why).1 (r_answer x child asking said why).1 wd (s_answer wd child asking said why).2 (r_answer x child asking said why).2 := by
  have h40 := hR.c2.2
  rw [s_answer_eq]
  unfold r_answer
  rw [isChild_eq hR, isAsking_eq hR]
  by_cases q1 : f_has (wCh wd) child = true
  · rw [if_pos q1, if_pos q1]
    by_cases q2 : f_has (wAs wd) asking = true
    · rw [if_pos q2, if_pos q2]
      by_cases q3 : r_in said 0 2 = true
      · rw [if_pos q3, if_pos q3]
        have e0 : mS x (2 : Int32).toNatClampNeg = nI (wAn wd).1 := hR.c2.1
        have fl := full_n (nm := 40) (x := wAn wd) h40 (by decide)
        rw [e0]
        by_cases f : f_isFull 40 (wAn wd) = true
        · rw [if_pos f, if_pos (show nI (wAn wd).1 = 40 from fl.mp f)]
          exact wOk.no hR hJ
        · have f2 : ¬ nI (wAn wd).1 = 40 := fun z => f (fl.mpr z)
          rw [if_neg f, if_neg f2]
          obtain ⟨n, ef⟩ : ∃ n, (wAn wd).1 = n := ⟨_, rfl⟩
          have hn : n < 40 := by
            rcases Nat.lt_or_ge n 40 with w | w
            · exact w
            · exact absurd (show nI (wAn wd).1 = 40 by rw [ef, show n = 40 by omega]; rfl) f2
          obtain ⟨a1, a2⟩ := add_n (nm := 40) (n := (wAn wd).1) (f := (wAn wd).2) (by omega) (by decide)
          have a1 : g_add 40 (wAn wd) = ((wAn wd).1 + 1, (wAn wd).2) := a1
          have a2 : f_add 40 (wAn wd) = nI (wAn wd).1 := a2
          obtain ⟨c, ec, hc⟩ := has_ex q1 (by have := hR.c0.2; omega)
          obtain ⟨a, ea, ha⟩ := has_ex q2 (by have := hR.c1.2; omega)
          have c8 := hR.c0.2
          have k0 : ∀ b, b ≤ 1000 → (nI b + nI n).toNatClampNeg = b + n := fun b hb => cl2 (by omega)
          have k1 : ((130 : Int32) + child).toNatClampNeg = 130 + c := by rw [ec, show (130 : Int32) = nI 130 from rfl, cl2 (by omega)]
          rw [ef, show ((282 : Int32) + nI n).toNatClampNeg = 282 + 40 * 0 + n from k0 282 (by decide), show ((322 : Int32) + nI n).toNatClampNeg = 282 + 40 * 1 + n from k0 322 (by decide), show ((362 : Int32) + nI n).toNatClampNeg = 282 + 40 * 2 + n from k0 362 (by decide), show ((402 : Int32) + nI n).toNatClampNeg = 282 + 40 * 3 + n from k0 402 (by decide), show ((442 : Int32) + nI n).toNatClampNeg = 282 + 40 * 4 + n from k0 442 (by decide), k1]
          have ev : (upd (upd (upd (upd (mS x) (282 + 40 * 0 + n) child) (282 + 40 * 1 + n) asking) (282 + 40 * 2 + n) said) (282 + 40 * 3 + n) (b2i (if why = true then true else false))) (130 + c) = mS x (130 + c) := by rw [pk_un (by omega), pk_un (by omega), pk_un (by omega), pk_un (by omega)]
          rw [ev]
          have eg : f_at 5 (wCh wd) child 0 = mS x (130 + c) := by
            rw [ec, hR.age hc, ← ec, k1]
          have hv := hR.ageb hJ hc
          rw [← ec, k1] at hv
          rw [eg]
          generalize mS x (130 + c) = g at hv
          have eS := ans9_Sn (mS x) hn child asking said (b2i (if why = true then true else false)) g 2 (fun i _ => by omega)
          rw [show ((2 : Int32).toNatClampNeg) = 2 from rfl, eS, hR.c2.1, ef, nI_1, a1, a2, ef]
          have gp : ∀ (f : Nat → Int32) (c : Nat) (v : Int32), c < 5 → g_put 5 (n + 1, f) (nI n) (nI c) v = (n + 1, upd f (5 * n + c) v) := fun f c v hc => g_put_n (by omega) (by omega) (by decide) hc
          rw [show g_put 5 (n + 1, (wAn wd).2) (nI n) 0 child = _ from gp _ 0 _ (by decide), show ∀ f v, g_put 5 (n + 1, f) (nI n) 1 v = _ from fun f v => gp f 1 v (by decide), show ∀ f v, g_put 5 (n + 1, f) (nI n) 2 v = _ from fun f v => gp f 2 v (by decide), show ∀ f v, g_put 5 (n + 1, f) (nI n) 3 v = _ from fun f v => gp f 3 v (by decide), show ∀ f v, g_put 5 (n + 1, f) (nI n) 4 v = _ from fun f v => gp f 4 v (by decide)]
          have h := hR.addAns hJ ef hn hc ha ec ea (in9_ib q3) (show ib 0 1 (b2i (if why = true then true else false)) from b2i_ib _) hv
          exact ⟨rfl, h.1, h.2, rfl⟩
      · rw [if_neg q3, if_neg q3]
        exact wOk.no hR hJ
    · rw [if_neg q2, if_neg q2]
      exact wOk.no hR hJ
  · rw [if_neg q1, if_neg q1]
    exact wOk.no hR hJ

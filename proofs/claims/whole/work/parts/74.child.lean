/-! child, grow, teach: alike, and what they leave is alike -/
/-- a call that writes: the answers are one, what is left is alike -/
def wOk (a b : Int32) (wd w2 : WT) (s2 : Nat → Int32) : Prop := a = b ∧ Rl w2 s2 ∧ mJ s2 ∧ wTp w2 = wTp wd
theorem wOk.no {a : Int32} {wd : WT} {s : Nat → Int32} (hR : Rl wd s) (hJ : mJ s) : wOk a a wd wd s := ⟨rfl, hR, hJ, rfl⟩
theorem upd_same (f : Nat → Int32) (j : Nat) : upd f j (f j) = f := by
  funext k
  by_cases q : k = j
  · subst q; exact pk_us
  · exact pk_un q
theorem ge9_in {w a b : Int32} (h1 : ¬ w < a) (h2 : w ≤ b) : r_in w a b = true := by
  unfold r_in
  rw [if_neg h1, if_neg (fun z => by have := i32lt.mp z; have := i32le.mp h2; omega)]
theorem ge9_in1 {w a b : Int32} (h1 : w < a) : ¬ r_in w a b = true := by
  unfold r_in
  rw [if_pos h1]
  decide
theorem ge9_in2 {w a b : Int32} (h1 : ¬ w < a) (h2 : ¬ w ≤ b) : ¬ r_in w a b = true := by
  unfold r_in
  rw [if_neg h1, if_pos (i32lt.mpr (by have : ¬ w.toInt ≤ b.toInt := fun z => h2 (i32le.mpr z); omega))]
  decide
theorem ib_of {w a b : Int32} (h1 : ¬ w < a) (h2 : w ≤ b) : ib a.toInt b.toInt w := ⟨by have : ¬ w.toInt < a.toInt := fun z => h1 (i32lt.mpr z); omega, i32le.mp h2⟩
theorem eq_teach {wd : WT} {x : MT} (hJ : mJ (mS x)) (hR : Rl wd (mS x)) (c k : Int32) : wOk (s_teach wd c k).1 (r_teach x c k).1 wd (s_teach wd c k).2 (r_teach x c k).2 := by
  unfold s_teach r_teach
  rw [isChild_eq hR, isStuff_eq]
  by_cases q1 : f_has (wCh wd) c = true
  · rw [if_pos q1, if_pos q1]
    by_cases q2 : f_isStuff k = true
    · rw [if_pos q2, if_pos q2]
      obtain ⟨c, rfl, hc⟩ := has_ex q1 (by have := hR.c0.2; omega)
      obtain ⟨k, rfl, hk⟩ := stuff_ex q2
      have h8 := hR.c0.2
      have t := taught_go hR hc hk
      have ea : ((138 : Int32) + 4 * nI c + nI k).toNatClampNeg = 138 + 4 * c + k := by
        rw [show (138 : Int32) = nI 138 from rfl, show (4 : Int32) = nI 4 from rfl, pk_mul, nI_add, nI_add, nI_clamp (by omega)]
      unfold u_teachNow
      by_cases p : f_at 5 (wCh wd) (nI c) (1 + nI k) = 100000
      · have hg : g_put 5 (wCh wd) (nI c) (1 + nI k) (f_at 5 (wCh wd) (nI c) 0) = ((wCh wd).1, upd (wCh wd).2 (5 * c + (1 + k)) (f_at 5 (wCh wd) (nI c) 0)) := by
          rw [show (1 : Int32) + nI k = nI (1 + k) from nI_add 1 k]
          exact g_put_n (nw := 5) (n := (wCh wd).1) (f := (wCh wd).2) (by omega) hc (by decide) (by omega)
        have hv := hR.ageb hJ hc
        rw [if_pos p, if_pos (t.mp p), hg, hR.age hc, ea]
        exact ⟨rfl, hR.setTaught hc hk hv, hJ.taught (by omega) hk (hv.weak (by decide) (by decide)), rfl⟩
      · rw [if_neg p, if_neg (fun z => p (t.mpr z))]
        rw [if_pos (show true = true from rfl), if_pos (show true = true from rfl), upd_same]
        exact ⟨rfl, hR, hJ, rfl⟩
    · rw [if_neg q2, if_neg q2]
      exact wOk.no hR hJ
  · rw [if_neg q1, if_neg q1]
    exact wOk.no hR hJ
theorem grow_go (x : MT) {nn : Int32} (hn : ib 1 60 nn) : ∀ (n k : Nat) (wd : WT) (s : Nat → Int32), Rl wd s → mJ s → k + n = (wCh wd).1 → wOk (nI (wCh (u_growGo nn n k wd)).1) (r_growGo x nn n k s).1 wd (u_growGo nn n k wd) (r_growGo x nn n k s).2
  | 0, k, wd, s, hR, hJ, h => by
    rw [u_growGo_0, r_growGo_0]
    exact ⟨hR.c0.1.symm, hR, hJ, rfl⟩
  | n + 1, k, wd, s, hR, hJ, h => by
    have h8 := hR.c0.2
    have hk : k < (wCh wd).1 := by omega
    have hv := hR.ageb hJ hk
    have ea : ((130 : Int32) + nI k).toNatClampNeg = 130 + k := by rw [show (130 : Int32) = nI 130 from rfl, cl2 (by omega)]
    have hb : ib 1 180 (s ((130 : Int32) + nI k).toNatClampNeg + nn) := ib_add hv hn (by decide) (by decide)
    rw [u_growGo_s, r_growGo_s, hR.age hk]
    have ev : (if 120 < s ((130 : Int32) + nI k).toNatClampNeg + nn then 120 else s ((130 : Int32) + nI k).toNatClampNeg + nn) = (if s ((130 : Int32) + nI k).toNatClampNeg + nn ≤ 120 then s ((130 : Int32) + nI k).toNatClampNeg + nn else 120) := by
      generalize s ((130 : Int32) + nI k).toNatClampNeg + nn = v
      by_cases q : v ≤ 120
      · rw [if_pos q, if_neg (fun z => by have := i32lt.mp z; have := i32le.mp q; omega)]
      · rw [if_neg q, if_pos (i32lt.mpr (by have : ¬ v.toInt ≤ (120 : Int32).toInt := fun z => q (i32le.mpr z); omega))]
    rw [ev]
    have hv2 : ib 0 120 (if s ((130 : Int32) + nI k).toNatClampNeg + nn ≤ 120 then s ((130 : Int32) + nI k).toNatClampNeg + nn else 120) := by
      generalize s ((130 : Int32) + nI k).toNatClampNeg + nn = v at hb ⊢
      by_cases q : v ≤ 120
      · rw [if_pos q]
        exact ⟨by have := hb.1; omega, i32le.mp q⟩
      · rw [if_neg q]
        exact ⟨by decide, by decide⟩
    generalize (if s ((130 : Int32) + nI k).toNatClampNeg + nn ≤ 120 then s ((130 : Int32) + nI k).toNatClampNeg + nn else 120) = v at hv2 ⊢
    have hg : g_put 5 (wCh wd) (nI k) 0 v = ((wCh wd).1, upd (wCh wd).2 (5 * k) v) := g_put_n (nw := 5) (n := (wCh wd).1) (f := (wCh wd).2) (c := 0) (by omega) hk (by decide) (by decide)
    rw [hg, ea]
    exact grow_go x hn n (k + 1) _ _ (hR.setAge hk v) (hJ.age (by omega) hv2) (show k + 1 + n = (wCh wd).1 by omega)
theorem eq_grow {wd : WT} {x : MT} (hJ : mJ (mS x)) (hR : Rl wd (mS x)) (n : Int32) : wOk (s_grow wd n).1 (r_grow x n).1 wd (s_grow wd n).2 (r_grow x n).2 := by
  unfold s_grow r_grow
  by_cases p : n < 1
  · rw [if_pos p, if_neg (ge9_in1 p)]
    exact wOk.no hR hJ
  · rw [if_neg p]
    by_cases q : n ≤ 60
    · rw [if_pos q, if_pos (ge9_in p q), hR.n0]
      exact grow_go x (ib_of p q) (wCh wd).1 0 wd (mS x) hR hJ (by omega)
    · rw [if_neg q, if_neg (ge9_in2 p q)]
      exact wOk.no hR hJ
theorem cl3 {a b n k : Nat} (h : a + b * n + k < 2 ^ 31) : (nI a + nI b * nI n + nI k).toNatClampNeg = a + b * n + k := by rw [pk_mul, nI_add, nI_add, nI_clamp h]
theorem eq_child {wd : WT} {x : MT} (hJ : mJ (mS x)) (hR : Rl wd (mS x)) (ag : Int32) : wOk (s_child wd ag).1 (r_child x ag).1 wd (s_child wd ag).2 (r_child x ag).2 := by
  have h8 := hR.c0.2
  unfold s_child r_child
  by_cases p : ag < 24
  · rw [if_pos p, if_neg (ge9_in1 p)]
    exact wOk.no hR hJ
  · rw [if_neg p]
    by_cases q : ag ≤ 120
    · rw [if_pos q, if_pos (ge9_in p q)]
      have e0 : mS x (0 : Int32).toNatClampNeg = nI (wCh wd).1 := hR.c0.1
      have fl := full_n (nm := 8) (x := wCh wd) h8 (by decide)
      rw [e0]
      by_cases f : f_isFull 8 (wCh wd) = true
      · rw [if_pos f, if_pos (show nI (wCh wd).1 = 8 from fl.mp f)]
        exact wOk.no hR hJ
      · have f2 : ¬ nI (wCh wd).1 = 8 := fun z => f (fl.mpr z)
        rw [if_neg f, if_neg f2]
        have hag := ib_of p q
        have hag : ib 24 120 ag := hag
        obtain ⟨n, ef⟩ : ∃ n, (wCh wd).1 = n := ⟨_, rfl⟩
        have hn : n < 8 := by
          rcases Nat.lt_or_ge n 8 with w | w
          · exact w
          · exact absurd (show nI (wCh wd).1 = 8 by rw [ef, show n = 8 by omega]; rfl) f2
        obtain ⟨a1, a2⟩ := add_n (nm := 8) (n := (wCh wd).1) (f := (wCh wd).2) (by omega) (by decide)
        have a1 : g_add 8 (wCh wd) = ((wCh wd).1 + 1, (wCh wd).2) := a1
        have a2 : f_add 8 (wCh wd) = nI (wCh wd).1 := a2
        have er : ∀ sv : Nat → Int32, r_childGo x 4 0 sv = (mS x (0 : Int32).toNatClampNeg, upd (upd (upd (upd (upd sv ((138 + (4 * (mS x (0 : Int32).toNatClampNeg))) + nI 0).toNatClampNeg (-1)) ((138 + (4 * (mS x (0 : Int32).toNatClampNeg))) + nI 1).toNatClampNeg (-1)) ((138 + (4 * (mS x (0 : Int32).toNatClampNeg))) + nI 2).toNatClampNeg (-1)) ((138 + (4 * (mS x (0 : Int32).toNatClampNeg))) + nI 3).toNatClampNeg (-1)) 0 ((upd (upd (upd (upd sv ((138 + (4 * (mS x (0 : Int32).toNatClampNeg))) + nI 0).toNatClampNeg (-1)) ((138 + (4 * (mS x (0 : Int32).toNatClampNeg))) + nI 1).toNatClampNeg (-1)) ((138 + (4 * (mS x (0 : Int32).toNatClampNeg))) + nI 2).toNatClampNeg (-1)) ((138 + (4 * (mS x (0 : Int32).toNatClampNeg))) + nI 3).toNatClampNeg (-1)) 0 + 1)) := fun _ => rfl
        have kA : ∀ k, k < 4 → ((138 : Int32) + 4 * nI n + nI k).toNatClampNeg = 138 + 4 * n + k := fun k hk => cl3 (a := 138) (b := 4) (n := n) (k := k) (by omega)
        have k0 : ((130 : Int32) + nI n).toNatClampNeg = 130 + n := by rw [show (130 : Int32) = nI 130 from rfl, cl2 (by omega)]
        rw [er, e0, ef, kA 0 (by decide), kA 1 (by decide), kA 2 (by decide), kA 3 (by decide), k0]
        generalize eS4 : upd (upd (upd (upd (upd (mS x) (130 + n) ag) (138 + 4 * n + 0) (-1)) (138 + 4 * n + 1) (-1)) (138 + 4 * n + 2) (-1)) (138 + 4 * n + 3) (-1) = S4
        have s4I : mI S4 := by
          have hm : (138, 169, -1, 120) ∈ mRg := by decide
          have h1 : ib (-1) 120 (-1 : Int32) := ⟨by decide, by decide⟩
          rw [← eS4]
          exact ((((hJ.1.putR (lo := 130) (hi := 137) (x := 0) (y := 120) (by decide) (by omega) (by omega) (hag.weak (by decide) (by decide))).putR hm (by omega) (by omega) h1).putR hm (by omega) (by omega) h1).putR hm (by omega) (by omega) h1).putR hm (by omega) (by omega) h1
        have s4n : ∀ j, j ≠ 130 + n → ¬ (138 + 4 * n ≤ j ∧ j < 142 + 4 * n) → S4 j = mS x j := fun j z1 z2 => by
          rw [← eS4, pk_un (by omega), pk_un (by omega), pk_un (by omega), pk_un (by omega), pk_un z1]
        have s4a : S4 (130 + n) = ag := by
          rw [← eS4, pk_un (by omega), pk_un (by omega), pk_un (by omega), pk_un (by omega), pk_us]
        have s4t : ∀ k, k < 4 → S4 (138 + 4 * n + k) = -1 := fun k hk => by
          rw [← eS4]
          match k, hk with
          | 3, _ => exact pk_us
          | 2, _ => rw [pk_un (by omega)]; exact pk_us
          | 1, _ => rw [pk_un (by omega), pk_un (by omega)]; exact pk_us
          | 0, _ => rw [pk_un (by omega), pk_un (by omega), pk_un (by omega)]; exact pk_us
        have e40 : S4 0 + 1 = nI (n + 1) := by
          rw [s4n 0 (by omega) (by omega), hR.c0.1, ef, nI_1]
        rw [e40]
        have n5 : ∀ j, j ≠ 0 → upd S4 0 (nI (n + 1)) j = S4 j := fun j z => pk_un z
        unfold u_addChild
        rw [a1, a2, ef]
        have gp : ∀ (f : Nat → Int32) (c : Nat) (v : Int32), c < 5 → g_put 5 (n + 1, f) (nI n) (nI c) v = (n + 1, upd f (5 * n + c) v) := fun f c v hc => g_put_n (by omega) (by omega) (by decide) hc
        rw [show ((1 : Int32) + 0) = nI 1 from rfl, show ((1 : Int32) + 1) = nI 2 from rfl, show ((1 : Int32) + 2) = nI 3 from rfl, show ((1 : Int32) + 3) = nI 4 from rfl, show g_put 5 (n + 1, (wCh wd).2) (nI n) 0 ag = _ from gp _ 0 _ (by decide), gp _ 1 _ (by decide), gp _ 2 _ (by decide), gp _ 3 _ (by decide), gp _ 4 _ (by decide)]
        generalize eF : upd (upd (upd (upd (upd (wCh wd).2 (5 * n + 0) ag) (5 * n + 1) 100000) (5 * n + 2) 100000) (5 * n + 3) 100000) (5 * n + 4) 100000 = F
        have Fn : ∀ j, j < 5 * n → F j = (wCh wd).2 j := fun j z => by
          rw [← eF, pk_un (by omega), pk_un (by omega), pk_un (by omega), pk_un (by omega), pk_un (by omega)]
        have Fa : F (5 * n) = ag := by
          rw [← eF, pk_un (by omega), pk_un (by omega), pk_un (by omega), pk_un (by omega)]
          exact pk_us
        have Ft : ∀ k, k < 4 → F (5 * n + 1 + k) = 100000 := fun k hk => by
          rw [← eF]
          match k, hk with
          | 3, _ => exact pk_us
          | 2, _ => rw [pk_un (by omega)]; exact pk_us
          | 1, _ => rw [pk_un (by omega), pk_un (by omega)]; exact pk_us
          | 0, _ => rw [pk_un (by omega), pk_un (by omega), pk_un (by omega)]; exact pk_us
        show wOk (nI n) (nI n) wd (wSetCh wd (n + 1, F)) (upd S4 0 (nI (n + 1)))
        refine ⟨rfl, ?_, ?_, rfl⟩
        · refine ⟨⟨pk_us, show n + 1 ≤ 8 by omega⟩, ⟨?_, hR.c1.2⟩, ⟨?_, hR.c2.2⟩, ⟨?_, hR.c3.2⟩, ⟨?_, hR.c4.2⟩, fun d hd => ⟨?_, fun k hk => ?_⟩, fun a ha j hj => ?_, fun a ha j hj => ?_, fun l hl => ?_, fun i hi => ?_⟩
          · rw [n5 1 (by decide), s4n 1 (by omega) (by omega)]; exact hR.c1.1
          · rw [n5 2 (by decide), s4n 2 (by omega) (by omega)]; exact hR.c2.1
          · rw [n5 3 (by decide), s4n 3 (by omega) (by omega)]; exact hR.c3.1
          · rw [n5 4 (by decide), s4n 4 (by omega) (by omega)]; exact hR.c4.1
          · show F (5 * d) = _
            have hd : d < n + 1 := hd
            rw [n5 _ (by omega)]
            by_cases z : d = n
            · subst z; rw [Fa, s4a]
            · rw [Fn _ (by omega), s4n _ (by omega) (by omega)]
              exact (hR.ch (show d < (wCh wd).1 by omega)).1
          · show tR (F (5 * d + 1 + k)) _
            have hd : d < n + 1 := hd
            rw [n5 _ (by omega)]
            by_cases z : d = n
            · subst z
              rw [Ft k hk, s4t k hk]
              exact .inl ⟨rfl, rfl⟩
            · rw [Fn _ (by omega), s4n _ (by omega) (by omega)]
              exact (hR.ch (show d < (wCh wd).1 by omega)).2 k hk
          · have c1 := hR.c1.2
            have ha : a < (wAs wd).1 := ha
            rw [n5 _ (by omega), s4n _ (by omega) (by omega)]; exact hR.as ha hj
          · have ha : a < (wAn wd).1 := ha
            have c2 := hR.c2.2
            rw [n5 _ (by omega), s4n _ (by omega) (by omega)]; exact hR.an ha hj
          · exact lRel_cg (by have := hR.c3.2; have hl : l < wLc wd := hl; omega) (hR.lw hl) (fun j a _ => by rw [n5 _ (by omega), s4n _ (by omega) (by omega)])
          · have hi : i < (wTp wd).1 := hi
            have c4 := hR.c4.2
            rw [n5 _ (by omega), s4n _ (by omega) (by omega)]; exact hR.tp hi
        · refine mJ_hi hJ (s4I.putR (lo := 0) (hi := 0) (x := 0) (y := 8) (by decide) (by omega) (by omega) (ib_lit (by omega) (by omega) (by omega))) ?_ (fun j a _ => ?_) (fun t ht => ?_)
          · rw [n5 3 (by decide), s4n 3 (by omega) (by omega)]
          · rw [n5 _ (by omega), s4n _ (by omega) (by omega)]
          · have h40 : ib 0 40 (mS x 2) := hJ.1 2 (2, 2, 0, 40) (by decide) (Nat.le_refl _) (Nat.le_refl _)
            have h40 := h40.2
            rw [n5 2 (by omega), s4n 2 (by omega) (by omega)] at ht
            have z := hJ.2.2.2 t ht
            rw [n5 (282 + t) (by omega), s4n (282 + t) (by omega) (by omega), n5 (322 + t) (by omega), s4n (322 + t) (by omega) (by omega), pk_us, n5 1 (by decide), s4n 1 (by omega) (by omega), nI_toInt (by omega)]
            rw [hR.c0.1, ef, nI_toInt (by omega)] at z
            exact ⟨by have := z.1; omega, z.2⟩
    · rw [if_neg q, if_neg (ge9_in2 p q)]
      exact wOk.no hR hJ

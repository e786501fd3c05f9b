/-- what a reader leaves as it was: all but the steps of the law that is read, and their count -/
def fr9 (an : Nat) (sv sv2 : Nat → Int32) : Prop := ∀ j : Nat, j ≠ 786 + an → ¬ (794 + 140 * an ≤ j ∧ j < 934 + 140 * an) → sv2 j = sv j
theorem fr9.rf {an : Nat} {sv : Nat → Int32} : fr9 an sv sv := fun _ _ _ => rfl
theorem fr9.tr {an : Nat} {a b c : Nat → Int32} (h : fr9 an a b) (h2 : fr9 an b c) : fr9 an a c := fun j p q => (h2 j p q).trans (h j p q)
def pFr (an en : Nat) (P : PF6) : Prop := ∀ (sp : Nat) (wr : Bool) (sv : Nat → Int32) (sp2 : Nat) (wr2 : Bool) (sv2 : Nat → Int32), gd an en 0 sp sv → P sp wr sv = (sp2, wr2, sv2) → fr9 an sv sv2
def pWr (P : PF6) : Prop := ∀ (sp : Nat) (sv : Nat → Int32), P sp true sv = (sp, true, sv)
theorem emits_fr {an en sp : Nat} {v : Int32} {wr : Bool} {sv : Nat → Int32} (h : gd an en 0 sp sv) (han : an < 8) (hen : en ≤ 120) : fr9 an sv (r_emits an en v wr sv) := by
  intro j h1 h2
  unfold r_emits
  have hi := h.2.1.weak (lo2 := 0) (hi2 := 120) (Int.le_refl _) (by have := h.1; omega)
  obtain ⟨e1, e2⟩ := step_at hi han (Int.le_refl _)
  have c1 : (786 + nI an).toNatClampNeg = 786 + an := cell_at (b := 786) han (by decide)
  split
  · rfl
  · rw [upd_ne (by rw [c1]; exact h1), upd_ne (by rw [e1]; omega)]
theorem atom_fr {an en sp sp2 : Nat} {wr2 : Bool} {sv sv2 : Nat → Int32} (hen : en ≤ 120) (han : an < 8) (hg : gd an en 0 sp sv) (h : r_atom an en sp sv = (sp2, wr2, sv2)) : fr9 an sv sv2 := by
  unfold r_atom at h
  obtain ⟨⟨v0, s0⟩, e0⟩ : ∃ z, r_among an en 13 sp sv = z := ⟨_, rfl⟩
  have h0 := E_among e0 hen hg.1
  simp only [e0] at h
  by_cases q0 : v0 = -1
  · rw [if_pos q0] at h; cases h; exact fr9.rf
  · rw [if_neg q0] at h
    obtain ⟨⟨v1, s1⟩, e1⟩ : ∃ z, r_among an en 14 s0 sv = z := ⟨_, rfl⟩
    have h1 := E_among e1 hen h0.2.1
    simp only [e1] at h
    by_cases q1 : v1 = -1
    · rw [if_pos q1] at h; cases h; exact fr9.rf
    · rw [if_neg q1] at h
      obtain ⟨⟨v2, s2, w2⟩, e2⟩ : ∃ z, r_figures an en s1 false sv = z := ⟨_, rfl⟩
      have h2 := E_figures e2 hen h1.2.1
      simp only [e2] at h
      cases h
      exact emits_fr (hg.up (sp2 := sp2) (by omega) h2.2.1) han hen
theorem pFr_factorZ {an en : Nat} (hen : en ≤ 120) (han : an < 8) : pFr an en (r_factorZ an en) := by
  intro sp wr sv sp2 wr2 sv2 hg h
  have e : r_factorZ an en sp wr sv = if wr = true then (sp, wr, sv) else if r_here en sp sv = 33 then (sp, true, sv) else if r_here en sp sv = 40 then (sp, true, sv) else r_atom an en sp sv := rfl
  rw [e] at h
  split at h
  · cases h; exact fr9.rf
  · split at h
    · cases h; exact fr9.rf
    · split at h
      · cases h; exact fr9.rf
      · exact atom_fr hen han hg h
theorem pFr_factorS {an en : Nat} {P E : PF6} (hen : en ≤ 120) (han : an < 8) (hP : pOK an en P) (hE : pOK an en E) (fP : pFr an en P) (fE : pFr an en E) : pFr an en (r_factorS an en P E) := by
  intro sp wr sv sp2 wr2 sv2 hg h
  rw [factorS_eq] at h
  split at h
  · cases h; exact fr9.rf
  · split at h
    · rename_i q
      have hl := here_eq (n := 33) q (by decide) hen hg.1
      unfold r_not at h
      obtain ⟨⟨s0, w0, v0⟩, e0⟩ : ∃ z, P (sp + 1) false sv = z := ⟨_, rfl⟩
      have hu := hg.up (sp2 := sp + 1) (by omega) hl
      have h0 := hP 0 _ _ _ _ _ _ hu e0
      simp only [e0] at h
      cases h
      exact (fP _ _ _ _ _ _ hu e0).tr (emits_fr h0.2 han hen)
    · split at h
      · rename_i q
        have hl := here_eq (n := 40) q (by decide) hen hg.1
        unfold r_open at h
        obtain ⟨⟨s0, w0, v0⟩, e0⟩ : ∃ z, E (sp + 1) false sv = z := ⟨_, rfl⟩
        have hu := hg.up (sp2 := sp + 1) (by omega) hl
        simp only [e0] at h
        obtain ⟨⟨s1, w1⟩, e1⟩ : ∃ z, r_must an en 41 s0 w0 v0 = z := ⟨_, rfl⟩
        simp only [e1] at h
        cases h
        exact fE _ _ _ _ _ _ hu e0
      · exact atom_fr hen han hg h
theorem everyGo_fr {an en : Nat} {P : PF6} (hen : en ≤ 120) (han : an < 8) (hP : pOK an en P) (fP : pFr an en P) : ∀ (n sp : Nat) (wr : Bool) (sv : Nat → Int32) (sp2 : Nat) (wr2 : Bool) (sv2 : Nat → Int32), gd an en 0 sp sv → r_everyGo an en P n sp wr sv = (sp2, wr2, sv2) → fr9 an sv sv2
  | 0, sp, wr, sv, sp2, wr2, sv2, hg, h => by cases h; exact fr9.rf
  | n + 1, sp, wr, sv, sp2, wr2, sv2, hg, h => by
    rw [r_everyGo_s] at h
    split at h
    · cases h; exact fr9.rf
    · split at h
      · rename_i q
        have hl := here_eq (n := 38) q (by decide) hen hg.1
        obtain ⟨⟨s0, w0, v0⟩, e0⟩ : ∃ z, P (sp + 1) wr sv = z := ⟨_, rfl⟩
        have h0 := hP 1 _ _ _ _ _ _ (hg.up1 hl) e0
        have f0 := fP _ _ _ _ _ _ (hg.up (sp2 := sp + 1) (by omega) hl) e0
        simp only [e0] at h
        exact (f0.tr (emits_fr h0.2.dn han hen)).tr (everyGo_fr hen han hP fP n _ _ _ _ _ _ (emits_gd h0.2 han hen) h)
      · cases h; exact fr9.rf
theorem someGo_fr {an en : Nat} {P : PF6} (hen : en ≤ 120) (han : an < 8) (hP : pOK an en P) (fP : pFr an en P) : ∀ (n sp : Nat) (wr : Bool) (sv : Nat → Int32) (sp2 : Nat) (wr2 : Bool) (sv2 : Nat → Int32), gd an en 0 sp sv → r_someGo an en P n sp wr sv = (sp2, wr2, sv2) → fr9 an sv sv2
  | 0, sp, wr, sv, sp2, wr2, sv2, hg, h => by cases h; exact fr9.rf
  | n + 1, sp, wr, sv, sp2, wr2, sv2, hg, h => by
    rw [r_someGo_s] at h
    split at h
    · cases h; exact fr9.rf
    · split at h
      · rename_i q
        have hl := here_eq (n := 124) q (by decide) hen hg.1
        obtain ⟨⟨s0, w0, v0⟩, e0⟩ : ∃ z, P (sp + 1) wr sv = z := ⟨_, rfl⟩
        have h0 := hP 1 _ _ _ _ _ _ (hg.up1 hl) e0
        have f0 := fP _ _ _ _ _ _ (hg.up (sp2 := sp + 1) (by omega) hl) e0
        simp only [e0] at h
        exact (f0.tr (emits_fr h0.2.dn han hen)).tr (someGo_fr hen han hP fP n _ _ _ _ _ _ (emits_gd h0.2 han hen) h)
      · cases h; exact fr9.rf
theorem pFr_every {an en : Nat} {P : PF6} (hen : en ≤ 120) (han : an < 8) (hP : pOK an en P) (fP : pFr an en P) : pFr an en (r_every an en P) := by
  intro sp wr sv sp2 wr2 sv2 hg h
  unfold r_every at h
  obtain ⟨⟨s0, w0, v0⟩, e0⟩ : ∃ z, P sp wr sv = z := ⟨_, rfl⟩
  have h0 := hP 0 _ _ _ _ _ _ hg e0
  simp only [e0] at h
  exact (fP _ _ _ _ _ _ hg e0).tr (everyGo_fr hen han hP fP _ _ _ _ _ _ _ h0.2 h)
theorem pFr_some {an en : Nat} {P : PF6} (hen : en ≤ 120) (han : an < 8) (hP : pOK an en P) (fP : pFr an en P) : pFr an en (r_some an en P) := by
  intro sp wr sv sp2 wr2 sv2 hg h
  unfold r_some at h
  obtain ⟨⟨s0, w0, v0⟩, e0⟩ : ∃ z, P sp wr sv = z := ⟨_, rfl⟩
  have h0 := hP 0 _ _ _ _ _ _ hg e0
  simp only [e0] at h
  exact (fP _ _ _ _ _ _ hg e0).tr (someGo_fr hen han hP fP _ _ _ _ _ _ _ h0.2 h)
theorem pFr_fac {an en : Nat} (hen : en ≤ 120) (han : an < 8) : ∀ d, pFr an en (r_fac an en d)
  | 0 => pFr_factorZ hen han
  | d + 1 => pFr_factorS hen han (pOK_fac hen han d) (pOK_some hen han (pOK_every hen han (pOK_fac hen han d))) (pFr_fac hen han d) (pFr_some hen han (pOK_every hen han (pOK_fac hen han d)) (pFr_every hen han (pOK_fac hen han d) (pFr_fac hen han d)))
theorem pFr_som {an en : Nat} (hen : en ≤ 120) (han : an < 8) (d : Nat) : pFr an en (r_som an en d) := pFr_some hen han (pOK_every hen han (pOK_fac hen han d)) (pFr_every hen han (pOK_fac hen han d) (pFr_fac hen han d))
theorem everyGo_w (an en : Nat) (P : PF6) (n sp : Nat) (sv : Nat → Int32) : r_everyGo an en P n sp true sv = (sp, true, sv) := by
  cases n with
  | zero => rfl
  | succ n => rw [r_everyGo_s, if_pos rfl]
theorem someGo_w (an en : Nat) (P : PF6) (n sp : Nat) (sv : Nat → Int32) : r_someGo an en P n sp true sv = (sp, true, sv) := by
  cases n with
  | zero => rfl
  | succ n => rw [r_someGo_s, if_pos rfl]
theorem pWr_every (an en : Nat) {P : PF6} (h : pWr P) : pWr (r_every an en P) := by
  intro sp sv
  unfold r_every
  rw [h sp sv]
  exact everyGo_w an en P _ sp sv
theorem pWr_some (an en : Nat) {P : PF6} (h : pWr P) : pWr (r_some an en P) := by
  intro sp sv
  unfold r_some
  rw [h sp sv]
  exact someGo_w an en P _ sp sv
theorem pWr_fac (an en : Nat) : ∀ d, pWr (r_fac an en d)
  | 0 => fun sp sv => by show r_factorZ an en sp true sv = _; unfold r_factorZ; rw [if_pos rfl]
  | d + 1 => fun sp sv => by show r_factorS an en _ _ sp true sv = _; rw [factorS_eq, if_pos rfl]
theorem pWr_som (an en d : Nat) : pWr (r_som an en d) := pWr_some an en (pWr_every an en (pWr_fac an en d))
/-- the cells of a law's own texts -/
def lr9 (an j : Nat) : Prop := j = 498 + an ∨ (506 + 4 * an ≤ j ∧ j < 510 + 4 * an) ∨ j = 538 + an ∨ (546 + 30 * an ≤ j ∧ j < 576 + 30 * an) ∨ j = 786 + an ∨ (794 + 140 * an ≤ j ∧ j < 934 + 140 * an)
/-- what a clause keeps: m overs before it, one more at most behind it -/
def cl9 (an en k m sp : Nat) (sv : Nat → Int32) (sp2 : Nat) (sv2 : Nat → Int32) : Prop := sp ≤ sp2 ∧ gd an en k sp2 sv2 ∧ ib 0 ((m + 1 : Nat) : Int) (sv2 (538 + nI an).toNatClampNeg) ∧ ∀ j : Nat, ¬ lr9 an j → sv2 j = sv j
theorem E_froms {an en k m sp sp2 : Nat} {wr wr2 : Bool} {sv sv2 : Nat → Int32} (hen : en ≤ 120) (han : an < 8) (hg : gd an en k sp sv) (ho : ib 0 m (sv (538 + nI an).toNatClampNeg)) (h : r_froms an en sp wr sv = (sp2, wr2, sv2)) : cl9 an en k m sp sv sp2 sv2 := by
  unfold r_froms at h
  obtain ⟨⟨s0, w0⟩, e0⟩ : ∃ z, r_spells an en 9 sp wr sv = z := ⟨_, rfl⟩
  have h0 := E_spells e0 hen hg.1
  simp only [e0] at h
  obtain ⟨⟨v1, s1, w1⟩, e1⟩ : ∃ z, r_figure an en 3 s0 w0 sv = z := ⟨_, rfl⟩
  have h1 := E_figure (high := 3) e1 (by decide) hen h0.2.1
  simp only [e1] at h
  obtain ⟨⟨s2, w2⟩, e2⟩ : ∃ z, r_must an en 32 s1 w1 sv = z := ⟨_, rfl⟩
  have h2 := E_must e2 (by decide) hen h1.2.1
  simp only [e2] at h
  obtain ⟨⟨v3, s3, w3⟩, e3⟩ : ∃ z, r_figures an en s2 w2 sv = z := ⟨_, rfl⟩
  have h3 := E_figures e3 hen h2.2.1
  simp only [e3] at h
  have hu := hg.up (sp2 := s3) (by omega) h3.2.1
  by_cases q : w3 = true
  · rw [if_pos q] at h
    cases h
    exact ⟨by omega, hu, ho.weak (Int.le_refl _) (by omega), fun _ _ => rfl⟩
  · rw [if_neg q] at h
    cases h
    have hv : ib 0 3 v1 := h1.2.2.2.1
    obtain ⟨n, rfl, p1, p2⟩ := hv.nI_eq (by decide)
    have ea : ((506 + (4 * (nI an))) + nI n).toNatClampNeg = 506 + 4 * an + n := by
      rw [show (506 : Int32) = nI 506 from rfl, show (4 : Int32) = nI 4 from rfl, pk_mul, nI_add, nI_add, nI_clamp (by omega)]
    have c1 : (786 + nI an).toNatClampNeg = 786 + an := cell_at (b := 786) han (by decide)
    have c2 : (538 + nI an).toNatClampNeg = 538 + an := cell_at (b := 538) han (by decide)
    rw [ea]
    refine ⟨by omega, ⟨hu.1, ?_, ?_⟩, ?_, ?_⟩
    · rw [upd_ne (by rw [c1]; omega)]; exact hu.2.1
    · rw [upd_ne (by rw [c2]; omega)]; exact hu.2.2
    · rw [upd_ne (by rw [c2]; omega)]; exact ho.weak (Int.le_refl _) (by omega)
    · intro j hj; unfold lr9 at hj; rw [upd_ne (by omega)]
theorem over_at2 {an c : Nat} (han : an < 8) (hc : c ≤ 9) : (546 + (3 * ((10 * (nI an)) + nI c)) : Int32).toNatClampNeg = 546 + 3 * (10 * an + c) ∧ ((546 + (3 * ((10 * (nI an)) + nI c))) + 1 : Int32).toNatClampNeg = 546 + 3 * (10 * an + c) + 1 ∧ ((546 + (3 * ((10 * (nI an)) + nI c))) + 2 : Int32).toNatClampNeg = 546 + 3 * (10 * an + c) + 2 := by
  have e : (546 : Int32) + 3 * (10 * nI an + nI c) = nI (546 + 3 * (10 * an + c)) := by
    rw [show (10 : Int32) = nI 10 from rfl, show (3 : Int32) = nI 3 from rfl, show (546 : Int32) = nI 546 from rfl, pk_mul, nI_add, pk_mul, nI_add]
  rw [e, show (1 : Int32) = nI 1 from rfl, show (2 : Int32) = nI 2 from rfl, nI_add, nI_add, nI_clamp (by omega), nI_clamp (by omega), nI_clamp (by omega)]
  exact ⟨rfl, rfl, rfl⟩
theorem E_overs {an en k m sp sp2 : Nat} {wr wr2 : Bool} {sv sv2 : Nat → Int32} (hen : en ≤ 120) (han : an < 8) (hm : m ≤ 9) (hg : gd an en k sp sv) (ho : ib 0 m (sv (538 + nI an).toNatClampNeg)) (h : r_overs an en sp wr sv = (sp2, wr2, sv2)) : cl9 an en k m sp sv sp2 sv2 := by
  unfold r_overs at h
  obtain ⟨⟨s0, w0⟩, e0⟩ : ∃ z, r_spells an en 10 sp wr sv = z := ⟨_, rfl⟩
  have h0 := E_spells e0 hen hg.1
  simp only [e0] at h
  obtain ⟨⟨v1, s1, w1⟩, e1⟩ : ∃ z, r_figure an en 3 s0 w0 sv = z := ⟨_, rfl⟩
  have h1 := E_figure (high := 3) e1 (by decide) hen h0.2.1
  simp only [e1] at h
  obtain ⟨⟨s2, w2⟩, e2⟩ : ∃ z, r_must an en 32 s1 w1 sv = z := ⟨_, rfl⟩
  have h2 := E_must e2 (by decide) hen h1.2.1
  simp only [e2] at h
  obtain ⟨⟨v3, s3, w3⟩, e3⟩ : ∃ z, r_figure an en 3 s2 w2 sv = z := ⟨_, rfl⟩
  have h3 := E_figure (high := 3) e3 (by decide) hen h2.2.1
  simp only [e3] at h
  obtain ⟨⟨s4, w4⟩, e4⟩ : ∃ z, r_must an en 32 s3 w3 sv = z := ⟨_, rfl⟩
  have h4 := E_must e4 (by decide) hen h3.2.1
  simp only [e4] at h
  obtain ⟨⟨v5, s5, w5⟩, e5⟩ : ∃ z, r_figures an en s4 w4 sv = z := ⟨_, rfl⟩
  have h5 := E_figures e5 hen h4.2.1
  simp only [e5] at h
  have hu := hg.up (sp2 := s5) (by omega) h5.2.1
  by_cases q : w5 = true
  · rw [if_pos q] at h
    cases h
    exact ⟨by omega, hu, ho.weak (Int.le_refl _) (by omega), fun _ _ => rfl⟩
  · rw [if_neg q] at h
    cases h
    obtain ⟨c, ec, p1, p2⟩ := ho.nI_eq (by decide)
    rw [ec]
    obtain ⟨a0, a1, a2⟩ := over_at2 (c := c) han (by omega)
    rw [a0, a1, a2]
    have c1 : (786 + nI an).toNatClampNeg = 786 + an := cell_at (b := 786) han (by decide)
    have c2 : (538 + nI an).toNatClampNeg = 538 + an := cell_at (b := 538) han (by decide)
    rw [c2] at ec
    rw [c2]
    refine ⟨by omega, ⟨hu.1, ?_, ?_⟩, ?_, ?_⟩
    · rw [c1, upd_ne (by omega), upd_ne (by omega), upd_ne (by omega), upd_ne (by omega), ← c1]; exact hu.2.1
    · rw [c2, upd_at, upd_ne (by omega), upd_ne (by omega), upd_ne (by omega), ec, show (1 : Int32) = nI 1 from rfl, nI_add]; exact ib_d (a := 0) (b := 10) (Nat.zero_le _) (by omega) (by decide)
    · rw [c2, upd_at, upd_ne (by omega), upd_ne (by omega), upd_ne (by omega), ec, show (1 : Int32) = nI 1 from rfl, nI_add]; exact ib_d (a := 0) (b := m + 1) (Nat.zero_le _) (by omega) (by omega)
    · intro j hj; unfold lr9 at hj; rw [upd_ne (by omega), upd_ne (by omega), upd_ne (by omega), upd_ne (by omega)]
def r_sayTail (an en : Nat) (P : PF6) (sp_0 : Nat) (wr_0 : Bool) (sv : Nat → Int32) : Nat × Bool × (Nat → Int32) := (match r_spells an en 12 sp_0 wr_0 sv with | (sp_1, wr_1) => (match r_figure an en 2 sp_1 wr_1 sv with | (v_2, sp_2, wr_2) => (match r_must an en 32 sp_2 wr_2 sv with | (sp_3, wr_3) => (match P sp_3 wr_3 sv with | (sp_4, wr_4, sv_4) => (sp_4, wr_4, (r_emits an en ((-10) - v_2) wr_4 sv_4))))))
def r_slip (an en : Nat) (sp_0 : Nat) (wr_0 : Bool) (sv : Nat → Int32) : Nat × Bool × (Nat → Int32) := (match r_spells an en 11 sp_0 wr_0 sv with | (sp_1, wr_1) => (match r_figures an en sp_1 wr_1 sv with | (v_2, sp_2, wr_2) => (sp_2, wr_2, upd sv (498 + (nI an)).toNatClampNeg (if wr_2 = true then sv (498 + (nI an)).toNatClampNeg else if v_2 ≤ 100 then v_2 else 100))))
theorem sayings_eq (an en : Nat) (P : PF6) (sp : Nat) (wr : Bool) (sv : Nat → Int32) {sp_0 : Nat} {wr_0 : Bool} (e : r_must an en 115 sp wr sv = (sp_0, wr_0)) : r_sayings an en P sp wr sv = if wr_0 = true then r_sayTail an en P sp_0 wr_0 sv else if r_here en sp_0 sv = 108 then r_slip an en sp_0 wr_0 sv else r_sayTail an en P sp_0 wr_0 sv := by
  unfold r_sayings
  rw [e]
  rfl
theorem gd.zero {an en k sp : Nat} {sv : Nat → Int32} (h : gd an en k sp sv) : gd an en 0 sp sv := ⟨h.1, h.2.1.weak (Int.le_refl _) (by omega), h.2.2⟩
theorem emits_gd2 {an en k sp : Nat} {v : Int32} {wr : Bool} {sv : Nat → Int32} (h0 : gd an en k sp sv) (h1 : wr = false → gd an en (k + 1) sp sv) (han : an < 8) (hen : en ≤ 120) : gd an en k sp (r_emits an en v wr sv) := by
  cases wr with
  | true => exact h0
  | false => exact emits_gd (h1 rfl) han hen
theorem E_slip {an en k m s0 sp2 : Nat} {w0 wr2 : Bool} {sv sv2 : Nat → Int32} (hen : en ≤ 120) (han : an < 8) (hg : gd an en k s0 sv) (ho : ib 0 m (sv (538 + nI an).toNatClampNeg)) (h : r_slip an en s0 w0 sv = (sp2, wr2, sv2)) : cl9 an en k m s0 sv sp2 sv2 := by
  unfold r_slip at h
  obtain ⟨⟨s1, w1⟩, e1⟩ : ∃ z, r_spells an en 11 s0 w0 sv = z := ⟨_, rfl⟩
  have h1 := E_spells e1 hen hg.1
  simp only [e1] at h
  obtain ⟨⟨v2, s2, w2⟩, e2⟩ : ∃ z, r_figures an en s1 w1 sv = z := ⟨_, rfl⟩
  have h2 := E_figures e2 hen h1.2.1
  simp only [e2] at h
  have hu := hg.up (sp2 := s2) (by omega) h2.2.1
  cases h
  have c0 : (498 + nI an).toNatClampNeg = 498 + an := cell_at (b := 498) han (by decide)
  have c1 : (786 + nI an).toNatClampNeg = 786 + an := cell_at (b := 786) han (by decide)
  have c2 : (538 + nI an).toNatClampNeg = 538 + an := cell_at (b := 538) han (by decide)
  rw [c0]
  refine ⟨by omega, ⟨hu.1, ?_, ?_⟩, ?_, ?_⟩
  · rw [upd_ne (by rw [c1]; omega)]; exact hu.2.1
  · rw [upd_ne (by rw [c2]; omega)]; exact hu.2.2
  · rw [upd_ne (by rw [c2]; omega)]; exact ho.weak (Int.le_refl _) (by omega)
  · intro j hj; unfold lr9 at hj; rw [upd_ne (by omega)]
theorem E_tail {an en k m s0 sp2 : Nat} {w0 wr2 : Bool} {P : PF6} {sv sv2 : Nat → Int32} (hen : en ≤ 120) (han : an < 8) (hPo : pOK an en P) (hPf : pFr an en P) (hPw : pWr P) (hg : gd an en k s0 sv) (hg1 : w0 = false → gd an en (k + 1) s0 sv) (ho : ib 0 m (sv (538 + nI an).toNatClampNeg)) (h : r_sayTail an en P s0 w0 sv = (sp2, wr2, sv2)) : cl9 an en k m s0 sv sp2 sv2 := by
  unfold r_sayTail at h
  obtain ⟨⟨s1, w1⟩, e1⟩ : ∃ z, r_spells an en 12 s0 w0 sv = z := ⟨_, rfl⟩
  have h1 := E_spells e1 hen hg.1
  simp only [e1] at h
  obtain ⟨⟨v2, s2, w2⟩, e2⟩ : ∃ z, r_figure an en 2 s1 w1 sv = z := ⟨_, rfl⟩
  have h2 := E_figure (high := 2) e2 (by decide) hen h1.2.1
  simp only [e2] at h
  obtain ⟨⟨s3, w3⟩, e3⟩ : ∃ z, r_must an en 32 s2 w2 sv = z := ⟨_, rfl⟩
  have h3 := E_must e3 (by decide) hen h2.2.1
  simp only [e3] at h
  obtain ⟨⟨s4, w4, v4⟩, e4⟩ : ∃ z, P s3 w3 sv = z := ⟨_, rfl⟩
  have hu := hg.up (sp2 := s3) (by omega) h3.2.1
  have h4 := hPo k _ _ _ _ _ _ hu e4
  have f4 := hPf _ _ _ _ _ _ hu.zero e4
  simp only [e4] at h
  have hk : w4 = false → gd an en (k + 1) s4 v4 := by
    intro q
    cases w0 with
    | true =>
      have q1 := (h1.2.2 rfl).1
      have q2 := (h2.2.2.1 q1).1
      have q3 := (h3.2.2.1 q2).1
      rw [q3, hPw s3 sv] at e4
      cases e4
      cases q
    | false => exact (hPo (k + 1) _ _ _ _ _ _ ((hg1 rfl).up (sp2 := s3) (by omega) h3.2.1) e4).2
  cases h
  have c2 : (538 + nI an).toNatClampNeg = 538 + an := cell_at (b := 538) han (by decide)
  have fe := f4.tr (emits_fr (v := -10 - v2) (wr := wr2) h4.2.zero han hen)
  refine ⟨by omega, emits_gd2 h4.2 hk han hen, ?_, ?_⟩
  · rw [c2, fe (538 + an) (by omega) (by omega), ← c2]; exact ho.weak (Int.le_refl _) (by omega)
  · intro j hj; unfold lr9 at hj; exact fe j (by omega) (by omega)
theorem E_sayings {an en k m sp sp2 : Nat} {wr wr2 : Bool} {P : PF6} {sv sv2 : Nat → Int32} (hen : en ≤ 120) (han : an < 8) (hPo : pOK an en P) (hPf : pFr an en P) (hPw : pWr P) (hg : gd an en k sp sv) (ho : ib 0 m (sv (538 + nI an).toNatClampNeg)) (h : r_sayings an en P sp wr sv = (sp2, wr2, sv2)) : cl9 an en k m sp sv sp2 sv2 := by
  obtain ⟨⟨s0, w0⟩, e0⟩ : ∃ z, r_must an en 115 sp wr sv = z := ⟨_, rfl⟩
  have h0 := E_must e0 (by decide) hen hg.1
  rw [sayings_eq an en P sp wr sv e0] at h
  have hu := hg.up (sp2 := s0) h0.1 h0.2.1
  have hk : w0 = false → gd an en (k + 1) s0 sv := fun q => hg.upk (by have := h0.2.2.2 q; omega) h0.2.1
  have fin : cl9 an en k m s0 sv sp2 sv2 → cl9 an en k m sp sv sp2 sv2 := fun z => ⟨Nat.le_trans h0.1 z.1, z.2⟩
  split at h
  · exact fin (E_tail hen han hPo hPf hPw hu hk ho h)
  · split at h
    · exact fin (E_slip hen han hu ho h)
    · exact fin (E_tail hen han hPo hPf hPw hu hk ho h)
theorem E_clause {an en k m sp sp2 : Nat} {wr wr2 : Bool} {P : PF6} {sv sv2 : Nat → Int32} (hen : en ≤ 120) (han : an < 8) (hm : m ≤ 9) (hPo : pOK an en P) (hPf : pFr an en P) (hPw : pWr P) (hg : gd an en k sp sv) (ho : ib 0 m (sv (538 + nI an).toNatClampNeg)) (h : r_clause an en P sp wr sv = (sp2, wr2, sv2)) : cl9 an en k m sp sv sp2 sv2 := by
  have e : r_clause an en P sp wr sv = if r_here en sp sv = 102 then r_froms an en sp wr sv else if r_here en sp sv = 111 then r_overs an en sp wr sv else if r_here en sp sv = 115 then r_sayings an en P sp wr sv else (sp, true, sv) := rfl
  rw [e] at h
  split at h
  · exact E_froms hen han hg ho h
  · split at h
    · exact E_overs hen han hm hg ho h
    · split at h
      · exact E_sayings hen han hPo hPf hPw hg ho h
      · cases h; exact ⟨Nat.le_refl _, hg, ho.weak (Int.le_refl _) (by omega), fun _ _ => rfl⟩

def r_atom (an en sp : Nat) (sv : Nat → Int32) : Nat × Bool × (Nat → Int32) := (match r_among an en 13 sp sv with | (v_0, sp_0) => if v_0 = (-1) then (sp_0, true, sv) else (match r_among an en 14 sp_0 sv with | (v_1, sp_1) => if v_1 = (-1) then (sp_1, true, sv) else (match r_figures an en sp_1 false sv with | (v_2, sp_2, wr_2) => (sp_2, wr_2, (r_emits an en ((v_0 + (8 * v_1)) + (32 * v_2)) wr_2 sv)))))
theorem gd.upk {an en k sp sp2 : Nat} {sv : Nat → Int32} (h : gd an en k sp sv) (h1 : sp + 1 ≤ sp2) (h2 : sp2 ≤ en) : gd an en (k + 1) sp2 sv := ⟨h2, h.2.1.weak (Int.le_refl _) (by omega), h.2.2⟩
theorem gd.dn {an en k sp : Nat} {sv : Nat → Int32} (h : gd an en (k + 1) sp sv) : gd an en k sp sv := ⟨h.1, h.2.1.weak (Int.le_refl _) (by omega), h.2.2⟩
theorem atom_ok {an en k sp sp2 : Nat} {wr2 : Bool} {sv sv2 : Nat → Int32} (hen : en ≤ 120) (han : an < 8) (hg : gd an en k sp sv) (h : r_atom an en sp sv = (sp2, wr2, sv2)) : sp ≤ sp2 ∧ gd an en k sp2 sv2 := by
  unfold r_atom at h
  obtain ⟨⟨v0, s0⟩, e0⟩ : ∃ z, r_among an en 13 sp sv = z := ⟨_, rfl⟩
  have h0 := E_among e0 hen hg.1
  simp only [e0] at h
  by_cases q0 : v0 = -1
  · rw [if_pos q0] at h
    cases h
    exact ⟨h0.1, hg.up h0.1 h0.2.1⟩
  · rw [if_neg q0] at h
    obtain ⟨⟨v1, s1⟩, e1⟩ : ∃ z, r_among an en 14 s0 sv = z := ⟨_, rfl⟩
    have h1 := E_among e1 hen h0.2.1
    simp only [e1] at h
    have h00 : s0 = sp + 1 := h0.2.2.elim (fun z => absurd z.1 q0) (fun z => z.1)
    by_cases q1 : v1 = -1
    · rw [if_pos q1] at h
      cases h
      exact ⟨by omega, hg.up (by omega) h1.2.1⟩
    · rw [if_neg q1] at h
      obtain ⟨⟨v2, s2, w2⟩, e2⟩ : ∃ z, r_figures an en s1 false sv = z := ⟨_, rfl⟩
      have h2 := E_figures e2 hen h1.2.1
      simp only [e2] at h
      cases h
      exact ⟨by omega, emits_gd (hg.upk (by omega) h2.2.1) han hen⟩
theorem pOK_factorZ {an en : Nat} (hen : en ≤ 120) (han : an < 8) : pOK an en (r_factorZ an en) := by
  intro k sp wr sv sp2 wr2 sv2 hg h
  have e : r_factorZ an en sp wr sv = if wr = true then (sp, wr, sv) else if r_here en sp sv = 33 then (sp, true, sv) else if r_here en sp sv = 40 then (sp, true, sv) else r_atom an en sp sv := rfl
  rw [e] at h
  split at h
  · cases h; exact ⟨Nat.le_refl _, hg⟩
  · split at h
    · cases h; exact ⟨Nat.le_refl _, hg⟩
    · split at h
      · cases h; exact ⟨Nat.le_refl _, hg⟩
      · exact atom_ok hen han hg h
def r_not (an en : Nat) (P : PF6) (sp : Nat) (sv : Nat → Int32) : Nat × Bool × (Nat → Int32) := (match P (sp + 1) false sv with | (sp_0, wr_0, sv_0) => (sp_0, wr_0, (r_emits an en (-1) wr_0 sv_0)))
def r_open (an en : Nat) (E : PF6) (sp : Nat) (sv : Nat → Int32) : Nat × Bool × (Nat → Int32) := (match E (sp + 1) false sv with | (sp_0, wr_0, sv_0) => (match r_must an en 41 sp_0 wr_0 sv_0 with | (sp_1, wr_1) => (sp_1, wr_1, sv_0)))
theorem factorS_eq (an en : Nat) (P E : PF6) (sp : Nat) (wr : Bool) (sv : Nat → Int32) : r_factorS an en P E sp wr sv = if wr = true then (sp, wr, sv) else if r_here en sp sv = 33 then r_not an en P sp sv else if r_here en sp sv = 40 then r_open an en E sp sv else r_atom an en sp sv := by
  have e : r_factorS an en P E sp wr sv = if wr = true then (sp, wr, sv) else if r_here en sp sv = 33 then (if r_here en sp sv = 33 then r_not an en P sp sv else r_open an en E sp sv) else if r_here en sp sv = 40 then (if r_here en sp sv = 33 then r_not an en P sp sv else r_open an en E sp sv) else r_atom an en sp sv := rfl
  rw [e]
  by_cases q : r_here en sp sv = 33
  · simp only [if_pos q]
  · simp only [if_neg q]
theorem pOK_factorS {an en : Nat} {P E : PF6} (hen : en ≤ 120) (han : an < 8) (hP : pOK an en P) (hE : pOK an en E) : pOK an en (r_factorS an en P E) := by
  intro k sp wr sv sp2 wr2 sv2 hg h
  rw [factorS_eq] at h
  split at h
  · cases h; exact ⟨Nat.le_refl _, hg⟩
  · split at h
    · rename_i q
      have hl := here_eq (n := 33) q (by decide) hen hg.1
      unfold r_not at h
      obtain ⟨⟨s0, w0, v0⟩, e0⟩ : ∃ z, P (sp + 1) false sv = z := ⟨_, rfl⟩
      have h0 := hP (k + 1) _ _ _ _ _ _ (hg.up1 hl) e0
      simp only [e0] at h
      cases h
      exact ⟨by omega, emits_gd h0.2 han hen⟩
    · split at h
      · rename_i q
        have hl := here_eq (n := 40) q (by decide) hen hg.1
        unfold r_open at h
        obtain ⟨⟨s0, w0, v0⟩, e0⟩ : ∃ z, E (sp + 1) false sv = z := ⟨_, rfl⟩
        have h0 := hE k _ _ _ _ _ _ (hg.up (sp2 := sp + 1) (by omega) hl) e0
        simp only [e0] at h
        obtain ⟨⟨s1, w1⟩, e1⟩ : ∃ z, r_must an en 41 s0 w0 v0 = z := ⟨_, rfl⟩
        have h1 := E_must e1 (by decide) hen h0.2.1
        simp only [e1] at h
        cases h
        exact ⟨by omega, h0.2.up h1.1 h1.2.1⟩
      · exact atom_ok hen han hg h
theorem everyGo_ok {an en : Nat} {P : PF6} (hen : en ≤ 120) (han : an < 8) (hP : pOK an en P) (k : Nat) : ∀ (n sp : Nat) (wr : Bool) (sv : Nat → Int32) (sp2 : Nat) (wr2 : Bool) (sv2 : Nat → Int32), gd an en k sp sv → r_everyGo an en P n sp wr sv = (sp2, wr2, sv2) → sp ≤ sp2 ∧ gd an en k sp2 sv2
  | 0, sp, wr, sv, sp2, wr2, sv2, hg, h => by cases h; exact ⟨Nat.le_refl _, hg⟩
  | n + 1, sp, wr, sv, sp2, wr2, sv2, hg, h => by
    rw [r_everyGo_s] at h
    split at h
    · cases h; exact ⟨Nat.le_refl _, hg⟩
    · split at h
      · rename_i q
        have hl := here_eq (n := 38) q (by decide) hen hg.1
        obtain ⟨⟨s0, w0, v0⟩, e0⟩ : ∃ z, P (sp + 1) wr sv = z := ⟨_, rfl⟩
        have h0 := hP (k + 1) _ _ _ _ _ _ (hg.up1 hl) e0
        simp only [e0] at h
        have h2 := everyGo_ok hen han hP k n _ _ _ _ _ _ (emits_gd h0.2 han hen) h
        exact ⟨by omega, h2.2⟩
      · cases h; exact ⟨Nat.le_refl _, hg⟩
theorem someGo_ok {an en : Nat} {P : PF6} (hen : en ≤ 120) (han : an < 8) (hP : pOK an en P) (k : Nat) : ∀ (n sp : Nat) (wr : Bool) (sv : Nat → Int32) (sp2 : Nat) (wr2 : Bool) (sv2 : Nat → Int32), gd an en k sp sv → r_someGo an en P n sp wr sv = (sp2, wr2, sv2) → sp ≤ sp2 ∧ gd an en k sp2 sv2
  | 0, sp, wr, sv, sp2, wr2, sv2, hg, h => by cases h; exact ⟨Nat.le_refl _, hg⟩
  | n + 1, sp, wr, sv, sp2, wr2, sv2, hg, h => by
    rw [r_someGo_s] at h
    split at h
    · cases h; exact ⟨Nat.le_refl _, hg⟩
    · split at h
      · rename_i q
        have hl := here_eq (n := 124) q (by decide) hen hg.1
        obtain ⟨⟨s0, w0, v0⟩, e0⟩ : ∃ z, P (sp + 1) wr sv = z := ⟨_, rfl⟩
        have h0 := hP (k + 1) _ _ _ _ _ _ (hg.up1 hl) e0
        simp only [e0] at h
        have h2 := someGo_ok hen han hP k n _ _ _ _ _ _ (emits_gd h0.2 han hen) h
        exact ⟨by omega, h2.2⟩
      · cases h; exact ⟨Nat.le_refl _, hg⟩
theorem pOK_every {an en : Nat} {P : PF6} (hen : en ≤ 120) (han : an < 8) (hP : pOK an en P) : pOK an en (r_every an en P) := by
  intro k sp wr sv sp2 wr2 sv2 hg h
  unfold r_every at h
  obtain ⟨⟨s0, w0, v0⟩, e0⟩ : ∃ z, P sp wr sv = z := ⟨_, rfl⟩
  have h0 := hP k _ _ _ _ _ _ hg e0
  simp only [e0] at h
  have h1 := everyGo_ok hen han hP k _ _ _ _ _ _ _ h0.2 h
  exact ⟨by omega, h1.2⟩
theorem pOK_some {an en : Nat} {P : PF6} (hen : en ≤ 120) (han : an < 8) (hP : pOK an en P) : pOK an en (r_some an en P) := by
  intro k sp wr sv sp2 wr2 sv2 hg h
  unfold r_some at h
  obtain ⟨⟨s0, w0, v0⟩, e0⟩ : ∃ z, P sp wr sv = z := ⟨_, rfl⟩
  have h0 := hP k _ _ _ _ _ _ hg e0
  simp only [e0] at h
  have h1 := someGo_ok hen han hP k _ _ _ _ _ _ _ h0.2 h
  exact ⟨by omega, h1.2⟩
/-- an F, a T, an E of the reference, inside so many open ones that d more may be opened -/
def r_fac (an en : Nat) : Nat → PF6
  | 0 => r_factorZ an en
  | d + 1 => r_factorS an en (r_fac an en d) (r_some an en (r_every an en (r_fac an en d)))
def r_som (an en d : Nat) : PF6 := r_some an en (r_every an en (r_fac an en d))
theorem pOK_fac {an en : Nat} (hen : en ≤ 120) (han : an < 8) : ∀ d, pOK an en (r_fac an en d)
  | 0 => pOK_factorZ hen han
  | d + 1 => pOK_factorS hen han (pOK_fac hen han d) (pOK_some hen han (pOK_every hen han (pOK_fac hen han d)))
theorem pOK_som {an en : Nat} (hen : en ≤ 120) (han : an < 8) (d : Nat) : pOK an en (r_som an en d) := pOK_some hen han (pOK_every hen han (pOK_fac hen han d))
theorem c_fac (l : Launch) (G : GG) (Z : AM) (M : Nat → Nat) (x : MT) (an en : Nat) (hN : mN M) (hAZ : ∀ q : Nat, m01 M q → Z.1 q) (hen : en ≤ 120) (han : an < 8) : ∀ (d o : Nat), o + d = 5 → cRm l G Z M x an en yX6_factor wsX6_factor { frames := 10 + 3 * d, cells := 0, slots := 0, locals := 300 + 120 * d } o (r_fac an en d) := by
  intro d
  induction d with
  | zero => exact fun o ho sp wr sv hg => c_X6_factor_z l G Z M x an en sp wr o sv hN hAZ hen han hg (by omega)
  | succ d ih =>
    intro o ho
    have hP := ih (o + 1) (by omega)
    have hB : cRm l G Z M x an en yX6_every wsX6_every { frames := 11 + 3 * d, cells := 0, slots := 0, locals := 340 + 120 * d } (o + 1) (r_every an en (r_fac an en d)) := fun sp wr sv hg => c_X6_every l G Z M x an en sp wr (o + 1) sv hN hAZ hen han hg d (r_fac an en d) hP (pOK_fac hen han d)
    have hE : cRm l G Z M x an en yX6_some wsX6_some { frames := 12 + 3 * d, cells := 0, slots := 0, locals := 380 + 120 * d } (o + 1) (r_some an en (r_every an en (r_fac an en d))) := fun sp wr sv hg => c_X6_some l G Z M x an en sp wr (o + 1) sv hN hAZ hen han hg d (r_every an en (r_fac an en d)) hB (pOK_every hen han (pOK_fac hen han d))
    exact fun sp wr sv hg => c_X6_factor_s l G Z M x an en sp wr o sv hN hAZ hen han hg d (r_fac an en d) (r_some an en (r_every an en (r_fac an en d))) (by omega) hP (pOK_fac hen han d) hE (pOK_some hen han (pOK_every hen han (pOK_fac hen han d)))
theorem c_som (l : Launch) (G : GG) (Z : AM) (M : Nat → Nat) (x : MT) (an en : Nat) (hN : mN M) (hAZ : ∀ q : Nat, m01 M q → Z.1 q) (hen : en ≤ 120) (han : an < 8) : cRm l G Z M x an en yX6_some wsX6_some { frames := 12 + 3 * 5, cells := 0, slots := 0, locals := 380 + 120 * 5 } 0 (r_som an en 5) :=
  fun sp wr sv hg => c_X6_some l G Z M x an en sp wr 0 sv hN hAZ hen han hg 5 (r_every an en (r_fac an en 5)) (fun sp wr sv hg => c_X6_every l G Z M x an en sp wr 0 sv hN hAZ hen han hg 5 (r_fac an en 5) (c_fac l G Z M x an en hN hAZ hen han 5 0 rfl) (pOK_fac hen han 5)) (pOK_every hen han (pOK_fac hen han 5))

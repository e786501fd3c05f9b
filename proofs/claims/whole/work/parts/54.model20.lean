/-- a reader's contract, as a writer's -/
theorem met_ro {l : Launch} {y : MethodName} {ws : List Cond} {rm : Room} {G : GG} {Z : AM} {av : List Value} {B B3 : Heap → Prop} {r : Option Value} {A : Nat → Prop} (h : Met l y ws rm (roP G av B) (roQ r) 0 0 nF) (hB : ∀ H, B H → B3 H) : Met l y ws rm (aP G Z av B) (wrQ r B3 A) 0 0 A := by
  intro p e ha hc hk s m args below hf happ hP hK
  obtain ⟨h1, h2, h3, h4⟩ := hP
  obtain ⟨n, o, q1, q2, q3, q4, L, q5, q6⟩ := h p e ha hc hk s m args below hf happ ⟨h1, h2, h4⟩ hK
  exact ⟨n, o, q1, q2, q3, ⟨q4.1, q4.2 ▸ hB _ h4, by rw [q4.2], fun q _ => by rw [q4.2]⟩, L, q5, fun q hq => (q6 q hq).elim⟩
/-- a writer's contract, its fact made wider, its places more -/
theorem met_wr {l : Launch} {y : MethodName} {ws : List Cond} {rm : Room} {G : GG} {Z : AM} {av : List Value} {B B0 B3 : Heap → Prop} {r : Option Value} {A A2 : Nat → Prop} (h : Met l y ws rm (aP G Z av B0) (wrQ r B A) 0 0 A) (h0 : ∀ H, B3 H → B0 H) {B4 : Heap → Prop} (hB : ∀ H, B H → B4 H) (hA : ∀ q, A q → A2 q) : Met l y ws rm (aP G Z av B3) (wrQ r B4 A2) 0 0 A2 := by
  intro p e ha hc hk s m args below hf happ hP hK
  obtain ⟨h1, h2, h3, h4⟩ := hP
  obtain ⟨n, o, q1, q2, q3, q4, L, q5, q6⟩ := h p e ha hc hk s m args below hf happ ⟨h1, h2, h3, h0 _ h4⟩ hK
  exact ⟨n, o, q1, q2, q3, ⟨q4.1, hB _ q4.2.1, q4.2.2.1, fun q hq => q4.2.2.2 q (fun z => hq (hA q z))⟩, L, q5, fun q hq => hA _ (q6 q hq)⟩
/-- the same without what is ambient -/
theorem met_am {l : Launch} {y : MethodName} {ws : List Cond} {rm : Room} {G : GG} {Z : AM} {av : List Value} {B : Heap → Prop} {Q : Array Value → State → Outcome → State → Prop} {A : Nat → Prop} (h : Met l y ws rm (roP G av B) Q 0 0 A) : Met l y ws rm (aP G Z av B) Q 0 0 A := by
  intro p e ha hc hk s m args below hf happ hP hK
  obtain ⟨h1, h2, h3, h4⟩ := hP
  exact h p e ha hc hk s m args below hf happ ⟨h1, h2, h4⟩ hK
set_option maxHeartbeats 4000000 in
set_option maxRecDepth 100000 in
theorem c_X6_law_a (l : Launch) (G : GG) (M : Nat → Nat) (x : MT) (kind vv : Int32)  (h1 : ¬ (r_in kind 0 6) = true) : Met l yX6_law wsX6_law { frames := 30, cells := 0, slots := 0, locals := 1041 } (roP G [.ref (M 0), .int kind, .int vv] (fun H => MAt G M x H)) (roQ (some (.int ((-1))))) 0 0 nF := by
  refine Met.ofW (cc := cX6_law) (maxL := 4) (ret := (some .int)) (by decide) rfl ?_
  intro p e s m args below meth c s₁ Bd hml hv
  obtain ⟨rfl, hK, hB⟩ := hv
  have hx := Bd.exec
  have hb := Bd.bytes
  have hr := Bd.returns
  have hts := atoms_spec (ws := wsX6_law) Bd.pre
  have hown : s.vm.findClass RX6 = some m.cls := findClass_of_methodNamed Bd.named
  have hlocks := Bd.notSynchronized
  have hC : CallFix p m c cX6_law 4 s _ wsX6_law RX6 := ⟨hx, hb, hml, hown, hts⟩
  have hl := lv_entry ([.ref (M 0), .int kind, .int vv]) (n := 4) (Nat.le_of_ble_eq_true rfl)
  rw [lg_entry_eq]
  generalize (lg_sl ([.ref (M 0), .int kind, .int vv]) ++ List.replicate (4 - (lg_sl ([.ref (M 0), .int kind, .int vv])).length) Slot.unset).toArray = ls at hl ⊢
  have hl : lv_has ls 4 [(0, .ref (M 0)), (1, .int kind), (2, .int vv)] := hl
  refine lv_iload_n hx hb dX6_law_0 rfl (lv_at hl 1 rfl) ?_
  refine lv_iconst (v := 0) hx hb dX6_law_1 (by decide) ?_
  refine lv_bipush (v := 6) hx hb dX6_law_2 (by decide +kernel) ?_
  refine ro_call (va_runS (As := [.int kind, .int 0, .int 6]) (rest := []) hC (c_X6_in l G kind 0 6) (va_cwS 3 hts gX6_law_X6_in rfl rfl rfl kd_X6_in ⟨(show 0 + 1 ≤ 30 by omega), (show 8 + (3 + 11) + (0) ≤ 1041 by omega)⟩) (ro_preS hK trivial) rfl rfl hl.1 rfl (lv_room (Nat.le_of_ble_eq_true rfl)) dX6_law_4 ⟨Nat.zero_le _, Nat.zero_le _⟩) ?_
  refine bz_ne (tgt := 12) hx hb dX6_law_7 (by decide) (fun h_1 => ?_) (fun h_1 => ?_)
  · exact absurd h_1 h1
  · refine lv_iconst (v := (-1)) hx hb dX6_law_10 (by decide) ?_
    exact ro_iret hx hb hr hlocks dX6_law_11 rfl
set_option maxHeartbeats 4000000 in
set_option maxRecDepth 100000 in
theorem c_X6_law_b (l : Launch) (G : GG) (M : Nat → Nat) (x : MT) (kind vv : Int32)  (h1 : (r_in kind 0 6) = true) (h2 : ¬ (r_in vv 0 9) = true) : Met l yX6_law wsX6_law { frames := 30, cells := 0, slots := 0, locals := 1041 } (roP G [.ref (M 0), .int kind, .int vv] (fun H => MAt G M x H)) (roQ (some (.int ((-2))))) 0 0 nF := by
  refine Met.ofW (cc := cX6_law) (maxL := 4) (ret := (some .int)) (by decide) rfl ?_
  intro p e s m args below meth c s₁ Bd hml hv
  obtain ⟨rfl, hK, hB⟩ := hv
  have hx := Bd.exec
  have hb := Bd.bytes
  have hr := Bd.returns
  have hts := atoms_spec (ws := wsX6_law) Bd.pre
  have hown : s.vm.findClass RX6 = some m.cls := findClass_of_methodNamed Bd.named
  have hlocks := Bd.notSynchronized
  have hC : CallFix p m c cX6_law 4 s _ wsX6_law RX6 := ⟨hx, hb, hml, hown, hts⟩
  have hl := lv_entry ([.ref (M 0), .int kind, .int vv]) (n := 4) (Nat.le_of_ble_eq_true rfl)
  rw [lg_entry_eq]
  generalize (lg_sl ([.ref (M 0), .int kind, .int vv]) ++ List.replicate (4 - (lg_sl ([.ref (M 0), .int kind, .int vv])).length) Slot.unset).toArray = ls at hl ⊢
  have hl : lv_has ls 4 [(0, .ref (M 0)), (1, .int kind), (2, .int vv)] := hl
  refine lv_iload_n hx hb dX6_law_0 rfl (lv_at hl 1 rfl) ?_
  refine lv_iconst (v := 0) hx hb dX6_law_1 (by decide) ?_
  refine lv_bipush (v := 6) hx hb dX6_law_2 (by decide +kernel) ?_
  refine ro_call (va_runS (As := [.int kind, .int 0, .int 6]) (rest := []) hC (c_X6_in l G kind 0 6) (va_cwS 3 hts gX6_law_X6_in rfl rfl rfl kd_X6_in ⟨(show 0 + 1 ≤ 30 by omega), (show 8 + (3 + 11) + (0) ≤ 1041 by omega)⟩) (ro_preS hK trivial) rfl rfl hl.1 rfl (lv_room (Nat.le_of_ble_eq_true rfl)) dX6_law_4 ⟨Nat.zero_le _, Nat.zero_le _⟩) ?_
  refine bz_ne (tgt := 12) hx hb dX6_law_7 (by decide) (fun h_1 => ?_) (fun h_1 => ?_)
  · refine lv_iload_n hx hb dX6_law_12 rfl (lv_at hl 2 rfl) ?_
    refine lv_iconst (v := 0) hx hb dX6_law_13 (by decide) ?_
    refine lv_bipush (v := 9) hx hb dX6_law_14 (by decide +kernel) ?_
    refine ro_call (va_runS (As := [.int vv, .int 0, .int 9]) (rest := []) hC (c_X6_in l G vv 0 9) (va_cwS 3 hts gX6_law_X6_in rfl rfl rfl kd_X6_in ⟨(show 0 + 1 ≤ 30 by omega), (show 8 + (3 + 11) + (0) ≤ 1041 by omega)⟩) (ro_preS hK trivial) rfl rfl hl.1 rfl (lv_room (Nat.le_of_ble_eq_true rfl)) dX6_law_16 ⟨Nat.zero_le _, Nat.zero_le _⟩) ?_
    refine bz_ne (tgt := 25) hx hb dX6_law_19 (by decide) (fun h_2 => ?_) (fun h_2 => ?_)
    · exact absurd h_2 h2
    · refine lv_bipush (v := (-2)) hx hb dX6_law_22 (by decide +kernel) ?_
      exact ro_iret hx hb hr hlocks dX6_law_24 rfl
  · exact absurd h1 h_1
set_option maxHeartbeats 4000000 in
set_option maxRecDepth 100000 in
theorem c_X6_law_c (l : Launch) (G : GG) (M : Nat → Nat) (x : MT) (kind vv : Int32)  (h1 : (r_in kind 0 6) = true) (h2 : (r_in vv 0 9) = true) (h3 : (mS x) (3 : Int32).toNatClampNeg = 8) : Met l yX6_law wsX6_law { frames := 30, cells := 0, slots := 0, locals := 1041 } (roP G [.ref (M 0), .int kind, .int vv] (fun H => MAt G M x H)) (roQ (some (.int ((-4))))) 0 0 nF := by
  refine Met.ofW (cc := cX6_law) (maxL := 4) (ret := (some .int)) (by decide) rfl ?_
  intro p e s m args below meth c s₁ Bd hml hv
  obtain ⟨rfl, hK, hB⟩ := hv
  have hx := Bd.exec
  have hb := Bd.bytes
  have hr := Bd.returns
  have hts := atoms_spec (ws := wsX6_law) Bd.pre
  have hown : s.vm.findClass RX6 = some m.cls := findClass_of_methodNamed Bd.named
  have hlocks := Bd.notSynchronized
  have hC : CallFix p m c cX6_law 4 s _ wsX6_law RX6 := ⟨hx, hb, hml, hown, hts⟩
  have hl := lv_entry ([.ref (M 0), .int kind, .int vv]) (n := 4) (Nat.le_of_ble_eq_true rfl)
  rw [lg_entry_eq]
  generalize (lg_sl ([.ref (M 0), .int kind, .int vv]) ++ List.replicate (4 - (lg_sl ([.ref (M 0), .int kind, .int vv])).length) Slot.unset).toArray = ls at hl ⊢
  have hl : lv_has ls 4 [(0, .ref (M 0)), (1, .int kind), (2, .int vv)] := hl
  refine lv_iload_n hx hb dX6_law_0 rfl (lv_at hl 1 rfl) ?_
  refine lv_iconst (v := 0) hx hb dX6_law_1 (by decide) ?_
  refine lv_bipush (v := 6) hx hb dX6_law_2 (by decide +kernel) ?_
  refine ro_call (va_runS (As := [.int kind, .int 0, .int 6]) (rest := []) hC (c_X6_in l G kind 0 6) (va_cwS 3 hts gX6_law_X6_in rfl rfl rfl kd_X6_in ⟨(show 0 + 1 ≤ 30 by omega), (show 8 + (3 + 11) + (0) ≤ 1041 by omega)⟩) (ro_preS hK trivial) rfl rfl hl.1 rfl (lv_room (Nat.le_of_ble_eq_true rfl)) dX6_law_4 ⟨Nat.zero_le _, Nat.zero_le _⟩) ?_
  refine bz_ne (tgt := 12) hx hb dX6_law_7 (by decide) (fun h_1 => ?_) (fun h_1 => ?_)
  · refine lv_iload_n hx hb dX6_law_12 rfl (lv_at hl 2 rfl) ?_
    refine lv_iconst (v := 0) hx hb dX6_law_13 (by decide) ?_
    refine lv_bipush (v := 9) hx hb dX6_law_14 (by decide +kernel) ?_
    refine ro_call (va_runS (As := [.int vv, .int 0, .int 9]) (rest := []) hC (c_X6_in l G vv 0 9) (va_cwS 3 hts gX6_law_X6_in rfl rfl rfl kd_X6_in ⟨(show 0 + 1 ≤ 30 by omega), (show 8 + (3 + 11) + (0) ≤ 1041 by omega)⟩) (ro_preS hK trivial) rfl rfl hl.1 rfl (lv_room (Nat.le_of_ble_eq_true rfl)) dX6_law_16 ⟨Nat.zero_le _, Nat.zero_le _⟩) ?_
    refine bz_ne (tgt := 25) hx hb dX6_law_19 (by decide) (fun h_2 => ?_) (fun h_2 => ?_)
    · refine lv_aload_n hx hb dX6_law_25 rfl (lv_at hl 0 rfl) ?_
      refine r_get (C := RX6) (T := TX6) (N := 18) hx hb hts i_X6_law_X6 hown hK hB.1 rfl 1 (by decide) k_X6_law_fieldLink_9 rfl rfl dX6_law_26 ?_
      refine lv_iconst (v := 3) hx hb dX6_law_29 (by decide) ?_
      refine r_iald hx hb hK hB.2.1 (show ¬ ((3 : Int32) < 0 ∨ 1920 ≤ (3 : Int32).toNatClampNeg) by decide) dX6_law_30 ?_
      refine lv_bipush (v := 8) hx hb dX6_law_31 (by decide +kernel) ?_
      refine lv_icmp_ne (tgt := 39) hx hb dX6_law_33 (by decide) (fun h_3 => ?_) (fun h_3 => ?_)
      · exact absurd h3 h_3
      · refine lv_bipush (v := (-4)) hx hb dX6_law_36 (by decide +kernel) ?_
        exact ro_iret hx hb hr hlocks dX6_law_38 rfl
    · exact absurd h2 h_2
  · exact absurd h1 h_1
abbrev laN (x : MT) : Nat := (mS x 3).toNatClampNeg
abbrev laE (x : MT) : Nat := (mS x 4).toNatClampNeg
def r_lawR (x : MT) (kind vv : Int32) : Int32 × Nat × Bool × (Nat → Int32) := r_lawMain x (laN x) (laE x) kind vv (r_som (laN x) (laE x) 5)
def r_law (x : MT) (kind vv : Int32) : Int32 × (Nat → Int32) := if r_in kind 0 6 = true then (if r_in vv 0 9 = true then (if mS x 3 = 8 then (-4, mS x) else ((r_lawR x kind vv).1, (r_lawR x kind vv).2.2.2)) else (-2, mS x)) else (-1, mS x)
/-- the states of the reference alike, but for what a reading of a law leaves behind -/
def mEq (x y : MT) (s : Nat → Int32) : Prop := mS y = s ∧ mIm y = mIm x ∧ mHi y = mHi x ∧ mBo y = mBo x ∧ mRa y = mRa x
theorem c3_X6_law (l : Launch) (G : GG) (Z : AM) (M : Nat → Nat) (x : MT) (kind vv : Int32) (hI : mI (mS x)) (hN : mN M) (hAZ : ∀ q : Nat, m01 M q → Z.1 q) : Met l yX6_law wsX6_law { frames := 30, cells := 0, slots := 0, locals := 1041 } (aP G Z [.ref (M 0), .int kind, .int vv] (fun H => MAt G M x H)) (wrQ (some (.int (r_law x kind vv).1)) (fun H => ∃ y, MAt G M y H ∧ mEq x y (r_law x kind vv).2) (m01 M)) 0 0 (m01 M) := by
  have same : ∀ {s : Nat → Int32} {H : Heap}, s = mS x → MAt G M x H → ∃ y, MAt G M y H ∧ mEq x y s := fun e h => ⟨x, h, e.symm, rfl, rfl, rfl, rfl⟩
  unfold r_law
  by_cases h1 : r_in kind 0 6 = true
  · rw [if_pos h1]
    by_cases h2 : r_in vv 0 9 = true
    · rw [if_pos h2]
      by_cases h3 : mS x 3 = 8
      · rw [if_pos h3]
        exact met_ro (c_X6_law_c l G M x kind vv h1 h2 h3) (fun H h => same rfl h)
      · rw [if_neg h3]
        have i3 : ib 0 8 (mS x 3) := hI 3 (3, 3, 0, 8) (by decide) (Nat.le_refl _) (Nat.le_refl _)
        have i4 : ib 0 120 (mS x 4) := hI 4 (4, 4, 0, 120) (by decide) (Nat.le_refl _) (Nat.le_refl _)
        have e3 : mS x 3 = nI (laN x) := cnt_beq i3 (by decide)
        have e4 : mS x 4 = nI (laE x) := cnt_beq i4 (by decide)
        have l3 := (i3.clamp (by decide)).2
        have l4 := (i4.clamp (by decide)).2
        have hen : laE x ≤ 120 := by show (mS x 4).toNatClampNeg ≤ 120; omega
        have han : laN x < 8 := by
          rcases Nat.lt_or_ge (laN x) 8 with q | q
          · exact q
          · exact absurd (by rw [e3, show laN x = 8 by (have : (mS x 3).toNatClampNeg ≤ 8 := by omega); show (mS x 3).toNatClampNeg = 8; have q : 8 ≤ (mS x 3).toNatClampNeg := q; omega]; decide) h3
        have h9 := c_X6_law_m l G Z M x (laN x) (laE x) kind vv (r_som (laN x) (laE x) 5) hN hAZ hen han e3 e4 h1 h2 (c_som l G Z M x (laN x) (laE x) hN hAZ hen han) (pOK_som hen han 5) (pFr_som hen han 5) (pWr_som _ _ 5)
        exact met_wr h9 (fun H h => h) (fun H h => ⟨_, PAt.to h, rfl, rfl, rfl, rfl, rfl⟩) (fun q h => h)
    · rw [if_neg h2]
      exact met_ro (c_X6_law_b l G M x kind vv h1 h2) (fun H h => same rfl h)
  · rw [if_neg h1]
    exact met_ro (c_X6_law_a l G M x kind vv h1) (fun H h => same rfl h)

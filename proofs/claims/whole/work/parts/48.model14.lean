abbrev PF6 : Type := Nat → Bool → (Nat → Int32) → Nat × Bool × (Nat → Int32)
theorem gd.up {an en k sp sp2 : Nat} {sv : Nat → Int32} (h : gd an en k sp sv) (h1 : sp ≤ sp2) (h2 : sp2 ≤ en) : gd an en k sp2 sv := ⟨h2, h.2.1.weak (Int.le_refl _) (by omega), h.2.2⟩
theorem gd.up1 {an en k sp : Nat} {sv : Nat → Int32} (h : gd an en k sp sv) (h2 : sp + 1 ≤ en) : gd an en (k + 1) (sp + 1) sv := ⟨h2, h.2.1.weak (Int.le_refl _) (by omega), h.2.2⟩
theorem step_at {an : Nat} {c : Int32} {m : Int} (h : ib 0 m c) (han : an < 8) (hm : m ≤ 120) : (794 + (140 * nI an) + c).toNatClampNeg = 794 + 140 * an + c.toNatClampNeg ∧ c.toNatClampNeg ≤ 120 := by
  obtain ⟨n, rfl, h1, h2⟩ := h.nI_eq (by decide)
  rw [show (794 : Int32) = nI 794 from rfl, show (140 : Int32) = nI 140 from rfl, pk_mul, nI_add, nI_add, nI_clamp (by omega), nI_clamp (by omega)]
  exact ⟨rfl, by omega⟩
theorem cell_at {b an : Nat} (han : an < 8) (hb : b ≤ 1000) : (nI b + nI an).toNatClampNeg = b + an := by
  rw [nI_add, nI_clamp (by omega)]
theorem emits_gd {an en k sp : Nat} {v : Int32} {wr : Bool} {sv : Nat → Int32} (h : gd an en (k + 1) sp sv) (han : an < 8) (hen : en ≤ 120) : gd an en k sp (r_emits an en v wr sv) := by
  unfold r_emits
  have hi := h.2.1.weak (lo2 := 0) (hi2 := 120) (Int.le_refl _) (by have := h.1; omega)
  obtain ⟨e1, e2⟩ := step_at hi han (Int.le_refl _)
  have c1 : (786 + nI an).toNatClampNeg = 786 + an := cell_at (b := 786) han (by decide)
  have c2 : (538 + nI an).toNatClampNeg = 538 + an := cell_at (b := 538) han (by decide)
  split
  · exact ⟨h.1, h.2.1.weak (Int.le_refl _) (by omega), h.2.2⟩
  · refine ⟨h.1, ?_, ?_⟩
    · rw [upd_at, upd_ne (by rw [e1, c1]; omega)]
      exact (ib_add h.2.1 (ib_nI (n := 1) (by decide)) (by decide) (by have := h.1; omega)).weak (by decide) (by omega)
    · rw [upd_ne (by rw [c1, c2]; omega), upd_ne (by rw [e1, c2]; omega)]
      exact h.2.2
/-- a contract of a reader of the reference at a depth, for every spot and row -/
def cRm (l : Launch) (G : GG) (Z : AM) (M : Nat → Nat) (x : MT) (an en : Nat) (y : MethodName) (ws : List Cond) (rm : Room) (op : Nat) (P : PF6) : Prop := ∀ (sp : Nat) (wr : Bool) (sv : Nat → Int32), gd an en 0 sp sv → Met l y ws rm (aP G Z [.ref (M 0)] (fun H => PAt G M x (nI an) (nI en) (nI sp) wr (nI op) sv H)) (wrQ none (fun H => PAt G M x (nI an) (nI en) (nI (P sp wr sv).1) (P sp wr sv).2.1 (nI op) (P sp wr sv).2.2 H) (m01 M)) 0 0 (m01 M)
theorem cRm.at {l : Launch} {G : GG} {Z : AM} {M : Nat → Nat} {x : MT} {an en : Nat} {y : MethodName} {ws : List Cond} {rm : Room} {op : Nat} {P : PF6} (h : cRm l G Z M x an en y ws rm op P) (sp : Nat) (wr : Bool) (sv : Nat → Int32) (hg : gd an en 0 sp sv) (sp9 : Nat) (wr9 : Bool) (sv9 : Nat → Int32) (hy9 : P sp wr sv = (sp9, wr9, sv9)) : Met l y ws rm (aP G Z [.ref (M 0)] (fun H => PAt G M x (nI an) (nI en) (nI sp) wr (nI op) sv H)) (wrQ none (fun H => PAt G M x (nI an) (nI en) (nI sp9) wr9 (nI op) sv9 H) (m01 M)) 0 0 (m01 M) := by
  have h9 := h sp wr sv hg
  rw [hy9] at h9
  exact h9
/-- what such a reader keeps -/
def pOK (an en : Nat) (P : PF6) : Prop := ∀ (k sp : Nat) (wr : Bool) (sv : Nat → Int32) (sp2 : Nat) (wr2 : Bool) (sv2 : Nat → Int32), gd an en k sp sv → P sp wr sv = (sp2, wr2, sv2) → sp ≤ sp2 ∧ gd an en k sp2 sv2
theorem pOK.z {an en : Nat} {P : PF6} (h : pOK an en P) {sp : Nat} {wr : Bool} {sv : Nat → Int32} {sp2 : Nat} {wr2 : Bool} {sv2 : Nat → Int32} {k : Nat} (hg : gd an en k sp sv) (e : P sp wr sv = (sp2, wr2, sv2)) : (sp ≤ sp2 ∧ sp2 ≤ en) ∧ gd an en k sp2 sv2 := by
  have := h k sp wr sv sp2 wr2 sv2 hg e
  exact ⟨⟨this.1, this.2.1⟩, this.2⟩
theorem fig_w (an en sp : Nat) (sv : Nat → Int32) : r_figures an en sp true sv = (0, sp, true) := by
  unfold r_figures
  rw [if_pos rfl]
  rfl
theorem must_w (an en : Nat) (cq : Int32) (sp : Nat) (sv : Nat → Int32) : r_must an en cq sp true sv = (sp, true) := rfl
theorem emits_w (an en : Nat) (v : Int32) (sv : Nat → Int32) : r_emits an en v true sv = sv := rfl
theorem i_X6_factor_X6 : ∀ w ∈ wsX60, w ∈ wsX6_factor := fun _ h => List.mem_cons_of_mem _ (List.mem_append_right _ h)
theorem k_X6_factor_fieldLink_57 : Cond.fieldLink RX6 57 "SameWaterModel" "isWrong" "Z" ∈ wsX6_factor := by decide +kernel
def r_factorW (an en : Nat) (sp : Nat) : Nat := sp
set_option maxHeartbeats 1000000 in
set_option maxRecDepth 100000 in
theorem c_X6_factor_w (l : Launch) (G : GG) (Z : AM) (M : Nat → Nat) (x : MT) (an en sp : Nat) (op : Nat) (sv : Nat → Int32)  (hN : mN M) (hAZ : ∀ q : Nat, m01 M q → Z.1 q) (hen : en ≤ 120) (han : an < 8) (hg : gd an en 0 sp sv) : Met l yX6_factor wsX6_factor { frames := 0, cells := 0, slots := 0, locals := 0 } (aP G Z [.ref (M 0)] (fun H => PAt G M x (nI an) (nI en) (nI sp) true (nI op) sv H)) (wrQ none (fun H => PAt G M x (nI an) (nI en) (nI (r_factorW an en sp)) true (nI op) sv H) (m01 M)) 0 0 (m01 M) := by
  refine Met.ofW (cc := cX6_factor) (maxL := 5) (ret := none) (by decide) rfl ?_
  intro p e s m args below meth c s₁ Bd hml hv
  obtain ⟨rfl, hK, hZ, hB⟩ := hv
  have hx := Bd.exec
  have hb := Bd.bytes
  have hr := Bd.returns
  have hts := atoms_spec (ws := wsX6_factor) Bd.pre
  have hown : s.vm.findClass RX6 = some m.cls := findClass_of_methodNamed Bd.named
  have hlocks := Bd.notSynchronized
  have hC : CallFix p m c cX6_factor 5 s _ wsX6_factor RX6 := ⟨hx, hb, hml, hown, hts⟩
  have hl := lv_entry ([.ref (M 0)]) (n := 5) (Nat.le_of_ble_eq_true rfl)
  rw [lg_entry_eq]
  generalize (lg_sl ([.ref (M 0)]) ++ List.replicate (5 - (lg_sl ([.ref (M 0)])).length) Slot.unset).toArray = ls at hl ⊢
  have hl : lv_has ls 5 [(0, .ref (M 0))] := hl
  have hS : wS (m01 M) s.heap s.heap [] := wS.rf
  have f_s := hB
  have hsp : sp ≤ en := hg.1
  refine lv_aload_n hx hb dX6_factor_0 rfl (lv_at hl 0 rfl) ?_
  refine r_get (C := RX6) (T := TX6) (N := 18) hx hb hts i_X6_factor_X6 hown hK f_s.1 rfl 7 (by decide) k_X6_factor_fieldLink_57 rfl rfl dX6_factor_1 ?_
  refine bz_eq (tgt := 8) hx hb dX6_factor_4 (by decide) (fun h_1 => ?_) (fun h_1 => ?_)
  · exact absurd rfl h_1
  · have h_1 : true = true := h_1
    have hE9 : r_factorW an en sp = sp := (by (try unfold r_factorW); (repeat rw [if_pos h_1]); first | done | rfl)
    exact wr_vret hx hb hr hlocks dX6_factor_7 hS (by rw [hE9]; exact f_s)
theorem i_X6_every_X6 : ∀ w ∈ wsX60, w ∈ wsX6_every := fun _ h => List.mem_cons_of_mem _ (List.mem_append_right _ h)
theorem k_X6_every_fieldLink_57 : Cond.fieldLink RX6 57 "SameWaterModel" "isWrong" "Z" ∈ wsX6_every := by decide +kernel
theorem kd_X6_factor : yX6_factor.cls = RX6 ∧ yX6_factor.cls ≠ "java/lang/invoke/MethodHandle" ∧ yX6_factor.cls ≠ "java/lang/invoke/VarHandle" ∧ (parseMethodDescriptor yX6_factor.desc).map (fun d => d.parameters.length) = some 0 := by decide +kernel
def r_everyW (an en : Nat) (sp : Nat) : Nat := sp
set_option maxHeartbeats 1000000 in
set_option maxRecDepth 100000 in
theorem c_X6_every_w (l : Launch) (G : GG) (Z : AM) (M : Nat → Nat) (x : MT) (an en sp : Nat) (op : Nat) (sv : Nat → Int32)  (hN : mN M) (hAZ : ∀ q : Nat, m01 M q → Z.1 q) (hen : en ≤ 120) (han : an < 8) (hg : gd an en 0 sp sv) : Met l yX6_every wsX6_every { frames := 1, cells := 0, slots := 0, locals := 24 } (aP G Z [.ref (M 0)] (fun H => PAt G M x (nI an) (nI en) (nI sp) true (nI op) sv H)) (wrQ none (fun H => PAt G M x (nI an) (nI en) (nI (r_everyW an en sp)) true (nI op) sv H) (m01 M)) 0 0 (m01 M) := by
  refine Met.ofW (cc := cX6_every) (maxL := 1) (ret := none) (by decide) rfl ?_
  intro p e s m args below meth c s₁ Bd hml hv
  obtain ⟨rfl, hK, hZ, hB⟩ := hv
  have hx := Bd.exec
  have hb := Bd.bytes
  have hr := Bd.returns
  have hts := atoms_spec (ws := wsX6_every) Bd.pre
  have hown : s.vm.findClass RX6 = some m.cls := findClass_of_methodNamed Bd.named
  have hlocks := Bd.notSynchronized
  have hC : CallFix p m c cX6_every 1 s _ wsX6_every RX6 := ⟨hx, hb, hml, hown, hts⟩
  have hl := lv_entry ([.ref (M 0)]) (n := 1) (Nat.le_of_ble_eq_true rfl)
  rw [lg_entry_eq]
  generalize (lg_sl ([.ref (M 0)]) ++ List.replicate (1 - (lg_sl ([.ref (M 0)])).length) Slot.unset).toArray = ls at hl ⊢
  have hl : lv_has ls 1 [(0, .ref (M 0))] := hl
  have hS : wS (m01 M) s.heap s.heap [] := wS.rf
  have f_s := hB
  have hsp : sp ≤ en := hg.1
  refine lv_aload_n hx hb dX6_every_0 rfl (lv_at hl 0 rfl) ?_
  refine wr_callv (va_runV (As := []) (rest := []) hC (c_X6_factor_w l G Z M x an en sp op sv hN hAZ hen han hg) (cwV 0 hts gX6_every_X6_factor rfl rfl rfl kd_X6_factor ⟨Nat.le_of_ble_eq_true rfl, Nat.le_of_ble_eq_true rfl⟩) (a_preV hK hZ f_s.1 rfl f_s) rfl rfl hl.1 rfl (lv_room (Nat.le_of_ble_eq_true rfl)) dX6_every_1 ⟨Nat.zero_le _, Nat.zero_le _⟩) hS (fun q h => h) (fun H locs f_n hq hS => ?_)
  have hZ := hZ.kept (fun a9 h9 => hq a9 (fun z9 => h9 (hAZ a9 ((fun q h => h) a9 z9))))
  have f_s := (f_n : PAt G M x (nI an) (nI en) (nI sp) true (nI op) sv H)
  refine lv_aload_n hx hb dX6_every_4 rfl (lv_at hl 0 rfl) ?_
  refine r_get (C := RX6) (T := TX6) (N := 18) hx hb hts i_X6_every_X6 hown hK f_s.1 rfl 7 (by decide) k_X6_every_fieldLink_57 rfl rfl dX6_every_5 ?_
  refine bz_ne (tgt := 43) hx hb dX6_every_8 (by decide) (fun h_1 => ?_) (fun h_1 => ?_)
  · have h_1 : true = true := h_1
    have hE9 : r_everyW an en sp = sp := (by (try unfold r_everyW); (repeat rw [if_pos h_1]); first | done | rfl)
    exact wr_vret hx hb hr hlocks dX6_every_43 hS (by rw [hE9]; exact f_s)
  · exact absurd rfl h_1
theorem i_X6_some_X6 : ∀ w ∈ wsX60, w ∈ wsX6_some := fun _ h => List.mem_cons_of_mem _ (List.mem_append_right _ h)
theorem k_X6_some_fieldLink_57 : Cond.fieldLink RX6 57 "SameWaterModel" "isWrong" "Z" ∈ wsX6_some := by decide +kernel
theorem kd_X6_every : yX6_every.cls = RX6 ∧ yX6_every.cls ≠ "java/lang/invoke/MethodHandle" ∧ yX6_every.cls ≠ "java/lang/invoke/VarHandle" ∧ (parseMethodDescriptor yX6_every.desc).map (fun d => d.parameters.length) = some 0 := by decide +kernel
def r_someW (an en : Nat) (sp : Nat) : Nat := sp
set_option maxHeartbeats 1000000 in
set_option maxRecDepth 100000 in
theorem c_X6_some_w (l : Launch) (G : GG) (Z : AM) (M : Nat → Nat) (x : MT) (an en sp : Nat) (op : Nat) (sv : Nat → Int32)  (hN : mN M) (hAZ : ∀ q : Nat, m01 M q → Z.1 q) (hen : en ≤ 120) (han : an < 8) (hg : gd an en 0 sp sv) : Met l yX6_some wsX6_some { frames := 2, cells := 0, slots := 0, locals := 44 } (aP G Z [.ref (M 0)] (fun H => PAt G M x (nI an) (nI en) (nI sp) true (nI op) sv H)) (wrQ none (fun H => PAt G M x (nI an) (nI en) (nI (r_someW an en sp)) true (nI op) sv H) (m01 M)) 0 0 (m01 M) := by
  refine Met.ofW (cc := cX6_some) (maxL := 1) (ret := none) (by decide) rfl ?_
  intro p e s m args below meth c s₁ Bd hml hv
  obtain ⟨rfl, hK, hZ, hB⟩ := hv
  have hx := Bd.exec
  have hb := Bd.bytes
  have hr := Bd.returns
  have hts := atoms_spec (ws := wsX6_some) Bd.pre
  have hown : s.vm.findClass RX6 = some m.cls := findClass_of_methodNamed Bd.named
  have hlocks := Bd.notSynchronized
  have hC : CallFix p m c cX6_some 1 s _ wsX6_some RX6 := ⟨hx, hb, hml, hown, hts⟩
  have hl := lv_entry ([.ref (M 0)]) (n := 1) (Nat.le_of_ble_eq_true rfl)
  rw [lg_entry_eq]
  generalize (lg_sl ([.ref (M 0)]) ++ List.replicate (1 - (lg_sl ([.ref (M 0)])).length) Slot.unset).toArray = ls at hl ⊢
  have hl : lv_has ls 1 [(0, .ref (M 0))] := hl
  have hS : wS (m01 M) s.heap s.heap [] := wS.rf
  have f_s := hB
  have hsp : sp ≤ en := hg.1
  refine lv_aload_n hx hb dX6_some_0 rfl (lv_at hl 0 rfl) ?_
  refine wr_callv (va_runV (As := []) (rest := []) hC (c_X6_every_w l G Z M x an en sp op sv hN hAZ hen han hg) (cwV 0 hts gX6_some_X6_every rfl rfl rfl kd_X6_every ⟨Nat.le_of_ble_eq_true rfl, Nat.le_of_ble_eq_true rfl⟩) (a_preV hK hZ f_s.1 rfl f_s) rfl rfl hl.1 rfl (lv_room (Nat.le_of_ble_eq_true rfl)) dX6_some_1 ⟨Nat.zero_le _, Nat.zero_le _⟩) hS (fun q h => h) (fun H locs f_n hq hS => ?_)
  have hZ := hZ.kept (fun a9 h9 => hq a9 (fun z9 => h9 (hAZ a9 ((fun q h => h) a9 z9))))
  have f_s := (f_n : PAt G M x (nI an) (nI en) (nI sp) true (nI op) sv H)
  refine lv_aload_n hx hb dX6_some_4 rfl (lv_at hl 0 rfl) ?_
  refine r_get (C := RX6) (T := TX6) (N := 18) hx hb hts i_X6_some_X6 hown hK f_s.1 rfl 7 (by decide) k_X6_some_fieldLink_57 rfl rfl dX6_some_5 ?_
  refine bz_ne (tgt := 43) hx hb dX6_some_8 (by decide) (fun h_1 => ?_) (fun h_1 => ?_)
  · have h_1 : true = true := h_1
    have hE9 : r_someW an en sp = sp := (by (try unfold r_someW); (repeat rw [if_pos h_1]); first | done | rfl)
    exact wr_vret hx hb hr hlocks dX6_some_43 hS (by rw [hE9]; exact f_s)
  · exact absurd rfl h_1

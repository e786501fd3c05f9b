theorem i_X6_froms_X6 : ∀ w ∈ wsX60, w ∈ wsX6_froms := fun _ h => List.mem_cons_of_mem _ (List.mem_append_right _ h)
theorem k_X6_froms_fieldLink_57 : Cond.fieldLink RX6 57 "SameWaterModel" "isWrong" "Z" ∈ wsX6_froms := by decide +kernel
theorem k_X6_froms_fieldLink_9 : Cond.fieldLink RX6 9 "SameWaterModel" "s" "[I" ∈ wsX6_froms := by decide +kernel
theorem k_X6_froms_fieldLink_78 : Cond.fieldLink RX6 78 "SameWaterModel" "act" "I" ∈ wsX6_froms := by decide +kernel
theorem kd_X6_spells : yX6_spells.cls = RX6 ∧ yX6_spells.cls ≠ "java/lang/invoke/MethodHandle" ∧ yX6_spells.cls ≠ "java/lang/invoke/VarHandle" ∧ (parseMethodDescriptor yX6_spells.desc).map (fun d => d.parameters.length) = some 1 := by decide +kernel
theorem kd_X6_figure : yX6_figure.cls = RX6 ∧ yX6_figure.cls ≠ "java/lang/invoke/MethodHandle" ∧ yX6_figure.cls ≠ "java/lang/invoke/VarHandle" ∧ (parseMethodDescriptor yX6_figure.desc).map (fun d => d.parameters.length) = some 1 := by decide +kernel
def r_froms (an en : Nat) (sp : Nat) (wr : Bool) (sv : Nat → Int32) : Nat × Bool × (Nat → Int32) := (match r_spells an en 9 sp wr sv with | (sp_0, wr_0) => (match r_figure an en 3 sp_0 wr_0 sv with | (v_1, sp_1, wr_1) => (match r_must an en 32 sp_1 wr_1 sv with | (sp_2, wr_2) => (match r_figures an en sp_2 wr_2 sv with | (v_3, sp_3, wr_3) => if wr_3 = true then (sp_3, wr_3, sv) else (sp_3, wr_3, upd sv ((506 + (4 * (nI an))) + v_1).toNatClampNeg v_3)))))
set_option maxHeartbeats 150000 in
set_option maxRecDepth 100000 in
theorem c_X6_froms (l : Launch) (G : GG) (Z : AM) (M : Nat → Nat) (x : MT) (an en sp : Nat) (wr : Bool) (op : Nat) (sv : Nat → Int32)  (hN : mN M) (hAZ : ∀ q : Nat, m01 M q → Z.1 q) (hen : en ≤ 120) (han : an < 8) (hg : gd an en 0 sp sv) : Met l yX6_froms wsX6_froms { frames := 5, cells := 0, slots := 0, locals := 107 } (aP G Z [.ref (M 0)] (fun H => PAt G M x (nI an) (nI en) (nI sp) wr (nI 0) sv H)) (wrQ none (fun H => PAt G M x (nI an) (nI en) (nI ((r_froms an en sp wr sv).1)) ((r_froms an en sp wr sv).2.1) (nI 0) ((r_froms an en sp wr sv).2.2) H) (m01 M)) 0 0 (m01 M) := by
  refine Met.ofW (cc := cX6_froms) (maxL := 3) (ret := none) (by decide) rfl ?_
  intro p e s m args below meth c s₁ Bd hml hv
  obtain ⟨rfl, hK, hZ, hB⟩ := hv
  have hx := Bd.exec
  have hb := Bd.bytes
  have hr := Bd.returns
  have hts := atoms_spec (ws := wsX6_froms) Bd.pre
  have hown : s.vm.findClass RX6 = some m.cls := findClass_of_methodNamed Bd.named
  have hlocks := Bd.notSynchronized
  have hC : CallFix p m c cX6_froms 3 s _ wsX6_froms RX6 := ⟨hx, hb, hml, hown, hts⟩
  have hl := lv_entry ([.ref (M 0)]) (n := 3) (Nat.le_of_ble_eq_true rfl)
  rw [lg_entry_eq]
  generalize (lg_sl ([.ref (M 0)]) ++ List.replicate (3 - (lg_sl ([.ref (M 0)])).length) Slot.unset).toArray = ls at hl ⊢
  have hl : lv_has ls 3 [(0, .ref (M 0))] := hl
  have hS : wS (m01 M) s.heap s.heap [] := wS.rf
  have f_s := hB
  have hsp : sp ≤ en := hg.1
  refine lv_aload_n hx hb dX6_froms_0 rfl (lv_at hl 0 rfl) ?_
  refine va_ldcS hx hb hown (hZ.2.2.2.2.2 9 (by decide)) dX6_froms_1 ?_
  obtain ⟨⟨sp_0, wr_0⟩, hy_0⟩ : ∃ z9, r_spells an en 9 sp wr sv = z9 := ⟨_, rfl⟩
  refine wr_callv (va_runV (As := [.ref (zK Z 9)]) (rest := []) hC (c2_X6_spells l G Z M x an en sp wr 0 sv 9 hN hAZ hen (by omega) (by decide) sp_0 wr_0 hy_0) (cwV 1 hts gX6_froms_X6_spells rfl rfl rfl kd_X6_spells ⟨Nat.le_of_ble_eq_true rfl, Nat.le_of_ble_eq_true rfl⟩) (a_preV hK hZ f_s.1 rfl f_s) rfl rfl hl.1 rfl (lv_room (Nat.le_of_ble_eq_true rfl)) dX6_froms_3 ⟨Nat.zero_le _, Nat.zero_le _⟩) hS (fun q h => h) (fun H locs f_n hq hS => ?_)
  have hZ := hZ.kept (fun a9 h9 => hq a9 (fun z9 => h9 (hAZ a9 ((fun q h => h) a9 z9))))
  have f_s := f_n
  have hq_0 := E_spells hy_0 hen (by omega)
  refine lv_aload_n hx hb dX6_froms_6 rfl (lv_at hl 0 rfl) ?_
  refine lv_iconst (v := 3) hx hb dX6_froms_7 (by decide) ?_
  obtain ⟨⟨v_1, sp_1, wr_1⟩, hy_1⟩ : ∃ z9, r_figure an en 3 sp_0 wr_0 sv = z9 := ⟨_, rfl⟩
  refine wr_call (va_runV (As := [.int 3]) (rest := []) hC (c2_X6_figure l G M x an en sp_0 wr_0 0 sv 3 hN hen (by omega) v_1 sp_1 wr_1 hy_1) (cwV 1 hts gX6_froms_X6_figure rfl rfl rfl kd_X6_figure ⟨Nat.le_of_ble_eq_true rfl, Nat.le_of_ble_eq_true rfl⟩) (ro_preV hK f_s.1 rfl f_s) rfl rfl hl.1 rfl (lv_room (Nat.le_of_ble_eq_true rfl)) dX6_froms_8 ⟨Nat.zero_le _, Nat.zero_le _⟩) hS (fun q h => h) (fun H locs f_n hq hS => ?_)
  have hZ := hZ.kept (fun a9 h9 => hq a9 (fun z9 => h9 (hAZ a9 ((fun q h => h) a9 z9))))
  have f_s := f_n
  have hq_1 := E_figure (high := 3) hy_1 (by decide) hen (by omega)
  refine lv_istore_n (lv' := [(1, .int v_1), (0, .ref (M 0))]) hx hb dX6_froms_11 rfl hl (by decide) rfl (fun ls hl => ?_)
  refine lv_aload_n hx hb dX6_froms_12 rfl (lv_at hl 1 rfl) ?_
  refine lv_bipush (v := 32) hx hb dX6_froms_13 (by decide +kernel) ?_
  obtain ⟨⟨sp_2, wr_2⟩, hy_2⟩ : ∃ z9, r_must an en 32 sp_1 wr_1 sv = z9 := ⟨_, rfl⟩
  refine wr_callv (va_runV (As := [.int 32]) (rest := []) hC (c2_X6_must l G M x an en sp_1 wr_1 0 sv 32 hN hen (by omega) sp_2 wr_2 hy_2) (cwV 1 hts gX6_froms_X6_must rfl rfl rfl kd_X6_must ⟨Nat.le_of_ble_eq_true rfl, Nat.le_of_ble_eq_true rfl⟩) (ro_preV hK f_s.1 rfl f_s) rfl rfl hl.1 rfl (lv_room (Nat.le_of_ble_eq_true rfl)) dX6_froms_15 ⟨Nat.zero_le _, Nat.zero_le _⟩) hS (fun q h => h) (fun H locs f_n hq hS => ?_)
  have hZ := hZ.kept (fun a9 h9 => hq a9 (fun z9 => h9 (hAZ a9 ((fun q h => h) a9 z9))))
  have f_s := f_n
  have hq_2 := E_must hy_2 (by first | decide | exact txB_nn _ _) hen (by omega)
  refine lv_aload_n hx hb dX6_froms_18 rfl (lv_at hl 1 rfl) ?_
  obtain ⟨⟨v_3, sp_3, wr_3⟩, hy_3⟩ : ∃ z9, r_figures an en sp_2 wr_2 sv = z9 := ⟨_, rfl⟩
  refine wr_call (va_runV (As := []) (rest := []) hC (c2_X6_figures l G M x an en sp_2 wr_2 0 sv hN hen (by omega) v_3 sp_3 wr_3 hy_3) (cwV 0 hts gX6_froms_X6_figures rfl rfl rfl kd_X6_figures ⟨Nat.le_of_ble_eq_true rfl, Nat.le_of_ble_eq_true rfl⟩) (ro_preV hK f_s.1 rfl f_s) rfl rfl hl.1 rfl (lv_room (Nat.le_of_ble_eq_true rfl)) dX6_froms_19 ⟨Nat.zero_le _, Nat.zero_le _⟩) hS (fun q h => h) (fun H locs f_n hq hS => ?_)
  have hZ := hZ.kept (fun a9 h9 => hq a9 (fun z9 => h9 (hAZ a9 ((fun q h => h) a9 z9))))
  have f_s := f_n
  have hq_3 := E_figures hy_3 hen (by omega)
  refine lv_istore_n (lv' := [(2, .int v_3), (1, .int v_1), (0, .ref (M 0))]) hx hb dX6_froms_22 rfl hl (by decide) rfl (fun ls hl => ?_)
  refine lv_aload_n hx hb dX6_froms_23 rfl (lv_at hl 2 rfl) ?_
  refine r_get (C := RX6) (T := TX6) (N := 18) hx hb hts i_X6_froms_X6 hown hK f_s.1 rfl 7 (by decide) k_X6_froms_fieldLink_57 rfl rfl dX6_froms_24 ?_
  refine bz_ne (tgt := 48) hx hb dX6_froms_27 (by decide) (fun h_1 => ?_) (fun h_1 => ?_)
  · have h_1 : wr_3 = true := h_1
    have hE9 : r_froms an en sp wr sv = (sp_3, wr_3, sv) := (by (try unfold r_froms); (try rw [hy_0]); (try dsimp only); (try rw [hy_1]); (try dsimp only); (try rw [hy_2]); (try dsimp only); (try rw [hy_3]); (try dsimp only); (repeat rw [if_pos h_1]); first | done | rfl)
    exact wr_vret hx hb hr hlocks dX6_froms_48 hS (by rw [hE9]; exact f_s)
  · have h_1 : ¬ (wr_3 = true) := h_1
    refine lv_aload_n hx hb dX6_froms_30 rfl (lv_at hl 2 rfl) ?_
    refine r_get (C := RX6) (T := TX6) (N := 18) hx hb hts i_X6_froms_X6 hown hK f_s.1 rfl 1 (by decide) k_X6_froms_fieldLink_9 rfl rfl dX6_froms_31 ?_
    refine lv_sipush (v := 506) hx hb dX6_froms_34 (by decide +kernel) ?_
    refine lv_iconst (v := 4) hx hb dX6_froms_37 (by decide) ?_
    refine lv_aload_n hx hb dX6_froms_38 rfl (lv_at hl 2 rfl) ?_
    refine r_get (C := RX6) (T := TX6) (N := 18) hx hb hts i_X6_froms_X6 hown hK f_s.1 rfl 4 (by decide) k_X6_froms_fieldLink_78 rfl rfl dX6_froms_39 ?_
    refine lv_imul hx hb dX6_froms_42 ?_
    refine lv_iadd hx hb dX6_froms_43 ?_
    refine lv_iload_n hx hb dX6_froms_44 rfl (lv_at hl 1 rfl) ?_
    refine lv_iadd hx hb dX6_froms_45 ?_
    refine lv_iload_n hx hb dX6_froms_46 rfl (lv_at hl 0 rfl) ?_
    refine w_iast hx hb hK f_s.2.1 hS (.inr rfl) (vp_ib (lo := 506) (hi := 537) (ib_add (ib_add (ib_nI (n := 506) (by decide)) (ib_mulk (k := 4) (ib_lt (n := 8) (by omega) (by decide)) (by decide) (by decide) (by decide)) (by decide) (by decide)) (show ib 0 3 v_1 from hq_1.2.2.2.1) (by decide) (by decide)) (by decide) (by decide)) dX6_froms_47 (fun H locs hn hq hS => ?_)
    have hZ := hZ.put (hAZ _ (.inr rfl)) hq
    have f_s : PAt G M x (nI an) (nI en) (nI sp_3) wr_3 (nI 0) (upd sv ((506 + (4 * (nI an))) + v_1).toNatClampNeg v_3) H := f_s.row hN hn hq
    have hE9 : r_froms an en sp wr sv = (sp_3, wr_3, upd sv ((506 + (4 * (nI an))) + v_1).toNatClampNeg v_3) := (by (try unfold r_froms); (try rw [hy_0]); (try dsimp only); (try rw [hy_1]); (try dsimp only); (try rw [hy_2]); (try dsimp only); (try rw [hy_3]); (try dsimp only); (repeat rw [if_neg h_1]); first | done | rfl)
    exact wr_vret hx hb hr hlocks dX6_froms_48 hS (by rw [hE9]; exact f_s)
theorem c2_X6_froms (l : Launch) (G : GG) (Z : AM) (M : Nat → Nat) (x : MT) (an en sp : Nat) (wr : Bool) (op : Nat) (sv : Nat → Int32)  (hN : mN M) (hAZ : ∀ q : Nat, m01 M q → Z.1 q) (hen : en ≤ 120) (han : an < 8) (hg : gd an en 0 sp sv) (sp9 : Nat) (wr9 : Bool) (sv9 : Nat → Int32) (hy9 : r_froms an en sp wr sv = (sp9, wr9, sv9)) : Met l yX6_froms wsX6_froms { frames := 5, cells := 0, slots := 0, locals := 107 } (aP G Z [.ref (M 0)] (fun H => PAt G M x (nI an) (nI en) (nI sp) wr (nI 0) sv H)) (wrQ none (fun H => PAt G M x (nI an) (nI en) (nI sp9) wr9 (nI 0) sv9 H) (m01 M)) 0 0 (m01 M) := by
  have h9 := c_X6_froms l G Z M x an en sp wr op sv hN hAZ hen han hg
  rw [hy9] at h9
  exact h9
theorem i_X6_overs_X6 : ∀ w ∈ wsX60, w ∈ wsX6_overs := fun _ h => List.mem_cons_of_mem _ (List.mem_append_right _ h)
theorem k_X6_overs_fieldLink_57 : Cond.fieldLink RX6 57 "SameWaterModel" "isWrong" "Z" ∈ wsX6_overs := by decide +kernel
theorem k_X6_overs_fieldLink_78 : Cond.fieldLink RX6 78 "SameWaterModel" "act" "I" ∈ wsX6_overs := by decide +kernel
theorem k_X6_overs_fieldLink_9 : Cond.fieldLink RX6 9 "SameWaterModel" "s" "[I" ∈ wsX6_overs := by decide +kernel
def r_overs (an en : Nat) (sp : Nat) (wr : Bool) (sv : Nat → Int32) : Nat × Bool × (Nat → Int32) := (match r_spells an en 10 sp wr sv with | (sp_0, wr_0) => (match r_figure an en 3 sp_0 wr_0 sv with | (v_1, sp_1, wr_1) => (match r_must an en 32 sp_1 wr_1 sv with | (sp_2, wr_2) => (match r_figure an en 3 sp_2 wr_2 sv with | (v_3, sp_3, wr_3) => (match r_must an en 32 sp_3 wr_3 sv with | (sp_4, wr_4) => (match r_figures an en sp_4 wr_4 sv with | (v_5, sp_5, wr_5) => if wr_5 = true then (sp_5, wr_5, sv) else (sp_5, wr_5, upd (upd (upd (upd sv (546 + (3 * ((10 * (nI an)) + (sv (538 + (nI an)).toNatClampNeg)))).toNatClampNeg v_1) ((546 + (3 * ((10 * (nI an)) + (sv (538 + (nI an)).toNatClampNeg)))) + 1).toNatClampNeg v_3) ((546 + (3 * ((10 * (nI an)) + (sv (538 + (nI an)).toNatClampNeg)))) + 2).toNatClampNeg v_5) (538 + (nI an)).toNatClampNeg (((upd (upd (upd sv (546 + (3 * ((10 * (nI an)) + (sv (538 + (nI an)).toNatClampNeg)))).toNatClampNeg v_1) ((546 + (3 * ((10 * (nI an)) + (sv (538 + (nI an)).toNatClampNeg)))) + 1).toNatClampNeg v_3) ((546 + (3 * ((10 * (nI an)) + (sv (538 + (nI an)).toNatClampNeg)))) + 2).toNatClampNeg v_5) (538 + (nI an)).toNatClampNeg) + 1))))))))
set_option maxHeartbeats 150000 in
set_option maxRecDepth 100000 in
theorem c_X6_overs (l : Launch) (G : GG) (Z : AM) (M : Nat → Nat) (x : MT) (an en sp : Nat) (wr : Bool) (op : Nat) (sv : Nat → Int32)  (hN : mN M) (hAZ : ∀ q : Nat, m01 M q → Z.1 q) (hen : en ≤ 120) (han : an < 8) (hg : gd an en 0 sp sv) : Met l yX6_overs wsX6_overs { frames := 5, cells := 0, slots := 0, locals := 107 } (aP G Z [.ref (M 0)] (fun H => PAt G M x (nI an) (nI en) (nI sp) wr (nI 0) sv H)) (wrQ none (fun H => PAt G M x (nI an) (nI en) (nI ((r_overs an en sp wr sv).1)) ((r_overs an en sp wr sv).2.1) (nI 0) ((r_overs an en sp wr sv).2.2) H) (m01 M)) 0 0 (m01 M) := by
  refine Met.ofW (cc := cX6_overs) (maxL := 5) (ret := none) (by decide) rfl ?_
  intro p e s m args below meth c s₁ Bd hml hv
  obtain ⟨rfl, hK, hZ, hB⟩ := hv
  have hx := Bd.exec
  have hb := Bd.bytes
  have hr := Bd.returns
  have hts := atoms_spec (ws := wsX6_overs) Bd.pre
  have hown : s.vm.findClass RX6 = some m.cls := findClass_of_methodNamed Bd.named
  have hlocks := Bd.notSynchronized
  have hC : CallFix p m c cX6_overs 5 s _ wsX6_overs RX6 := ⟨hx, hb, hml, hown, hts⟩
  have hl := lv_entry ([.ref (M 0)]) (n := 5) (Nat.le_of_ble_eq_true rfl)
  rw [lg_entry_eq]
  generalize (lg_sl ([.ref (M 0)]) ++ List.replicate (5 - (lg_sl ([.ref (M 0)])).length) Slot.unset).toArray = ls at hl ⊢
  have hl : lv_has ls 5 [(0, .ref (M 0))] := hl
  have hS : wS (m01 M) s.heap s.heap [] := wS.rf
  have f_s := hB
  have hsp : sp ≤ en := hg.1
  refine lv_aload_n hx hb dX6_overs_0 rfl (lv_at hl 0 rfl) ?_
  refine va_ldcS hx hb hown (hZ.2.2.2.2.2 10 (by decide)) dX6_overs_1 ?_
  obtain ⟨⟨sp_0, wr_0⟩, hy_0⟩ : ∃ z9, r_spells an en 10 sp wr sv = z9 := ⟨_, rfl⟩
  refine wr_callv (va_runV (As := [.ref (zK Z 10)]) (rest := []) hC (c2_X6_spells l G Z M x an en sp wr 0 sv 10 hN hAZ hen (by omega) (by decide) sp_0 wr_0 hy_0) (cwV 1 hts gX6_overs_X6_spells rfl rfl rfl kd_X6_spells ⟨Nat.le_of_ble_eq_true rfl, Nat.le_of_ble_eq_true rfl⟩) (a_preV hK hZ f_s.1 rfl f_s) rfl rfl hl.1 rfl (lv_room (Nat.le_of_ble_eq_true rfl)) dX6_overs_3 ⟨Nat.zero_le _, Nat.zero_le _⟩) hS (fun q h => h) (fun H locs f_n hq hS => ?_)
  have hZ := hZ.kept (fun a9 h9 => hq a9 (fun z9 => h9 (hAZ a9 ((fun q h => h) a9 z9))))
  have f_s := f_n
  have hq_0 := E_spells hy_0 hen (by omega)
  refine lv_aload_n hx hb dX6_overs_6 rfl (lv_at hl 0 rfl) ?_
  refine lv_iconst (v := 3) hx hb dX6_overs_7 (by decide) ?_
  obtain ⟨⟨v_1, sp_1, wr_1⟩, hy_1⟩ : ∃ z9, r_figure an en 3 sp_0 wr_0 sv = z9 := ⟨_, rfl⟩
  refine wr_call (va_runV (As := [.int 3]) (rest := []) hC (c2_X6_figure l G M x an en sp_0 wr_0 0 sv 3 hN hen (by omega) v_1 sp_1 wr_1 hy_1) (cwV 1 hts gX6_overs_X6_figure rfl rfl rfl kd_X6_figure ⟨Nat.le_of_ble_eq_true rfl, Nat.le_of_ble_eq_true rfl⟩) (ro_preV hK f_s.1 rfl f_s) rfl rfl hl.1 rfl (lv_room (Nat.le_of_ble_eq_true rfl)) dX6_overs_8 ⟨Nat.zero_le _, Nat.zero_le _⟩) hS (fun q h => h) (fun H locs f_n hq hS => ?_)
  have hZ := hZ.kept (fun a9 h9 => hq a9 (fun z9 => h9 (hAZ a9 ((fun q h => h) a9 z9))))
  have f_s := f_n
  have hq_1 := E_figure (high := 3) hy_1 (by decide) hen (by omega)
  refine lv_istore_n (lv' := [(1, .int v_1), (0, .ref (M 0))]) hx hb dX6_overs_11 rfl hl (by decide) rfl (fun ls hl => ?_)
  refine lv_aload_n hx hb dX6_overs_12 rfl (lv_at hl 1 rfl) ?_
  refine lv_bipush (v := 32) hx hb dX6_overs_13 (by decide +kernel) ?_
  obtain ⟨⟨sp_2, wr_2⟩, hy_2⟩ : ∃ z9, r_must an en 32 sp_1 wr_1 sv = z9 := ⟨_, rfl⟩
  refine wr_callv (va_runV (As := [.int 32]) (rest := []) hC (c2_X6_must l G M x an en sp_1 wr_1 0 sv 32 hN hen (by omega) sp_2 wr_2 hy_2) (cwV 1 hts gX6_overs_X6_must rfl rfl rfl kd_X6_must ⟨Nat.le_of_ble_eq_true rfl, Nat.le_of_ble_eq_true rfl⟩) (ro_preV hK f_s.1 rfl f_s) rfl rfl hl.1 rfl (lv_room (Nat.le_of_ble_eq_true rfl)) dX6_overs_15 ⟨Nat.zero_le _, Nat.zero_le _⟩) hS (fun q h => h) (fun H locs f_n hq hS => ?_)
  have hZ := hZ.kept (fun a9 h9 => hq a9 (fun z9 => h9 (hAZ a9 ((fun q h => h) a9 z9))))
  have f_s := f_n
  have hq_2 := E_must hy_2 (by first | decide | exact txB_nn _ _) hen (by omega)
  refine lv_aload_n hx hb dX6_overs_18 rfl (lv_at hl 1 rfl) ?_
  refine lv_iconst (v := 3) hx hb dX6_overs_19 (by decide) ?_
  obtain ⟨⟨v_3, sp_3, wr_3⟩, hy_3⟩ : ∃ z9, r_figure an en 3 sp_2 wr_2 sv = z9 := ⟨_, rfl⟩
  refine wr_call (va_runV (As := [.int 3]) (rest := []) hC (c2_X6_figure l G M x an en sp_2 wr_2 0 sv 3 hN hen (by omega) v_3 sp_3 wr_3 hy_3) (cwV 1 hts gX6_overs_X6_figure rfl rfl rfl kd_X6_figure ⟨Nat.le_of_ble_eq_true rfl, Nat.le_of_ble_eq_true rfl⟩) (ro_preV hK f_s.1 rfl f_s) rfl rfl hl.1 rfl (lv_room (Nat.le_of_ble_eq_true rfl)) dX6_overs_20 ⟨Nat.zero_le _, Nat.zero_le _⟩) hS (fun q h => h) (fun H locs f_n hq hS => ?_)
  have hZ := hZ.kept (fun a9 h9 => hq a9 (fun z9 => h9 (hAZ a9 ((fun q h => h) a9 z9))))
  have f_s := f_n
  have hq_3 := E_figure (high := 3) hy_3 (by decide) hen (by omega)
  refine lv_istore_n (lv' := [(2, .int v_3), (1, .int v_1), (0, .ref (M 0))]) hx hb dX6_overs_23 rfl hl (by decide) rfl (fun ls hl => ?_)
  refine lv_aload_n hx hb dX6_overs_24 rfl (lv_at hl 2 rfl) ?_
  refine lv_bipush (v := 32) hx hb dX6_overs_25 (by decide +kernel) ?_
  obtain ⟨⟨sp_4, wr_4⟩, hy_4⟩ : ∃ z9, r_must an en 32 sp_3 wr_3 sv = z9 := ⟨_, rfl⟩
  refine wr_callv (va_runV (As := [.int 32]) (rest := []) hC (c2_X6_must l G M x an en sp_3 wr_3 0 sv 32 hN hen (by omega) sp_4 wr_4 hy_4) (cwV 1 hts gX6_overs_X6_must rfl rfl rfl kd_X6_must ⟨Nat.le_of_ble_eq_true rfl, Nat.le_of_ble_eq_true rfl⟩) (ro_preV hK f_s.1 rfl f_s) rfl rfl hl.1 rfl (lv_room (Nat.le_of_ble_eq_true rfl)) dX6_overs_27 ⟨Nat.zero_le _, Nat.zero_le _⟩) hS (fun q h => h) (fun H locs f_n hq hS => ?_)
  have hZ := hZ.kept (fun a9 h9 => hq a9 (fun z9 => h9 (hAZ a9 ((fun q h => h) a9 z9))))
  have f_s := f_n
  have hq_4 := E_must hy_4 (by first | decide | exact txB_nn _ _) hen (by omega)
  refine lv_aload_n hx hb dX6_overs_30 rfl (lv_at hl 2 rfl) ?_
  obtain ⟨⟨v_5, sp_5, wr_5⟩, hy_5⟩ : ∃ z9, r_figures an en sp_4 wr_4 sv = z9 := ⟨_, rfl⟩
  refine wr_call (va_runV (As := []) (rest := []) hC (c2_X6_figures l G M x an en sp_4 wr_4 0 sv hN hen (by omega) v_5 sp_5 wr_5 hy_5) (cwV 0 hts gX6_overs_X6_figures rfl rfl rfl kd_X6_figures ⟨Nat.le_of_ble_eq_true rfl, Nat.le_of_ble_eq_true rfl⟩) (ro_preV hK f_s.1 rfl f_s) rfl rfl hl.1 rfl (lv_room (Nat.le_of_ble_eq_true rfl)) dX6_overs_31 ⟨Nat.zero_le _, Nat.zero_le _⟩) hS (fun q h => h) (fun H locs f_n hq hS => ?_)
  have hZ := hZ.kept (fun a9 h9 => hq a9 (fun z9 => h9 (hAZ a9 ((fun q h => h) a9 z9))))
  have f_s := f_n
  have hq_5 := E_figures hy_5 hen (by omega)
  refine lv_istore_n (lv' := [(3, .int v_5), (2, .int v_3), (1, .int v_1), (0, .ref (M 0))]) hx hb dX6_overs_34 rfl hl (by decide) rfl (fun ls hl => ?_)
  refine lv_aload_n hx hb dX6_overs_35 rfl (lv_at hl 3 rfl) ?_
  refine r_get (C := RX6) (T := TX6) (N := 18) hx hb hts i_X6_overs_X6 hown hK f_s.1 rfl 7 (by decide) k_X6_overs_fieldLink_57 rfl rfl dX6_overs_36 ?_
  refine bz_ne (tgt := 116) hx hb dX6_overs_39 (by decide) (fun h_1 => ?_) (fun h_1 => ?_)
  · have h_1 : wr_5 = true := h_1
    have hE9 : r_overs an en sp wr sv = (sp_5, wr_5, sv) := (by (try unfold r_overs); (try rw [hy_0]); (try dsimp only); (try rw [hy_1]); (try dsimp only); (try rw [hy_2]); (try dsimp only); (try rw [hy_3]); (try dsimp only); (try rw [hy_4]); (try dsimp only); (try rw [hy_5]); (try dsimp only); (repeat rw [if_pos h_1]); first | done | rfl)
    exact wr_vret hx hb hr hlocks dX6_overs_116 hS (by rw [hE9]; exact f_s)
  · have h_1 : ¬ (wr_5 = true) := h_1
    refine lv_sipush (v := 546) hx hb dX6_overs_42 (by decide +kernel) ?_
    refine lv_iconst (v := 3) hx hb dX6_overs_45 (by decide) ?_
    refine lv_bipush (v := 10) hx hb dX6_overs_46 (by decide +kernel) ?_
    refine lv_aload_n hx hb dX6_overs_48 rfl (lv_at hl 3 rfl) ?_
    refine r_get (C := RX6) (T := TX6) (N := 18) hx hb hts i_X6_overs_X6 hown hK f_s.1 rfl 4 (by decide) k_X6_overs_fieldLink_78 rfl rfl dX6_overs_49 ?_
    refine lv_imul hx hb dX6_overs_52 ?_
    refine lv_aload_n hx hb dX6_overs_53 rfl (lv_at hl 3 rfl) ?_
    refine r_get (C := RX6) (T := TX6) (N := 18) hx hb hts i_X6_overs_X6 hown hK f_s.1 rfl 1 (by decide) k_X6_overs_fieldLink_9 rfl rfl dX6_overs_54 ?_
    refine lv_sipush (v := 538) hx hb dX6_overs_57 (by decide +kernel) ?_
    refine lv_aload_n hx hb dX6_overs_60 rfl (lv_at hl 3 rfl) ?_
    refine r_get (C := RX6) (T := TX6) (N := 18) hx hb hts i_X6_overs_X6 hown hK f_s.1 rfl 4 (by decide) k_X6_overs_fieldLink_78 rfl rfl dX6_overs_61 ?_
    refine lv_iadd hx hb dX6_overs_64 ?_
    refine r_iald hx hb hK f_s.2.1 (vp_ib (lo := 538) (hi := 545) (ib_add (ib_nI (n := 538) (by decide)) (ib_lt (n := 8) (by omega) (by decide)) (by decide) (by decide)) (by decide) (by decide)) dX6_overs_65 ?_
    refine lv_iadd hx hb dX6_overs_66 ?_
    refine lv_imul hx hb dX6_overs_67 ?_
    refine lv_iadd hx hb dX6_overs_68 ?_
    refine lv_istore (lv' := [(4, .int (546 + (3 * ((10 * (nI an)) + (sv (538 + (nI an)).toNatClampNeg))))), (3, .int v_5), (2, .int v_3), (1, .int v_1), (0, .ref (M 0))]) hx hb dX6_overs_69 hl (by decide) rfl (fun ls hl => ?_)
    refine lv_aload_n hx hb dX6_overs_71 rfl (lv_at hl 4 rfl) ?_
    refine r_get (C := RX6) (T := TX6) (N := 18) hx hb hts i_X6_overs_X6 hown hK f_s.1 rfl 1 (by decide) k_X6_overs_fieldLink_9 rfl rfl dX6_overs_72 ?_
    refine lv_iload hx hb dX6_overs_75 (lv_at hl 0 rfl) ?_
    refine lv_iload_n hx hb dX6_overs_77 rfl (lv_at hl 3 rfl) ?_
    refine w_iast hx hb hK f_s.2.1 hS (.inr rfl) (vp_ib (lo := 546) (hi := 786) (ib_add (ib_nI (n := 546) (by decide)) (ib_mulk (k := 3) (ib_add (ib_mulk (k := 10) (ib_lt (n := 8) (by omega) (by decide)) (by decide) (by decide) (by decide)) hg.2.2 (by decide) (by decide)) (by decide) (by decide) (by decide)) (by decide) (by decide)) (by decide) (by decide)) dX6_overs_78 (fun H locs hn hq hS => ?_)
    have hZ := hZ.put (hAZ _ (.inr rfl)) hq
    have f_s : PAt G M x (nI an) (nI en) (nI sp_5) wr_5 (nI 0) (upd sv (546 + (3 * ((10 * (nI an)) + (sv (538 + (nI an)).toNatClampNeg)))).toNatClampNeg v_1) H := f_s.row hN hn hq
    refine lv_aload_n hx hb dX6_overs_79 rfl (lv_at hl 4 rfl) ?_
    refine r_get (C := RX6) (T := TX6) (N := 18) hx hb hts i_X6_overs_X6 hown hK f_s.1 rfl 1 (by decide) k_X6_overs_fieldLink_9 rfl rfl dX6_overs_80 ?_
    refine lv_iload hx hb dX6_overs_83 (lv_at hl 0 rfl) ?_
    refine lv_iconst (v := 1) hx hb dX6_overs_85 (by decide) ?_
    refine lv_iadd hx hb dX6_overs_86 ?_
    refine lv_iload_n hx hb dX6_overs_87 rfl (lv_at hl 2 rfl) ?_
    refine w_iast hx hb hK f_s.2.1 hS (.inr rfl) (vp_ib (lo := 547) (hi := 787) (ib_add (ib_add (ib_nI (n := 546) (by decide)) (ib_mulk (k := 3) (ib_add (ib_mulk (k := 10) (ib_lt (n := 8) (by omega) (by decide)) (by decide) (by decide) (by decide)) hg.2.2 (by decide) (by decide)) (by decide) (by decide) (by decide)) (by decide) (by decide)) (ib_nI (n := 1) (by decide)) (by decide) (by decide)) (by decide) (by decide)) dX6_overs_88 (fun H locs hn hq hS => ?_)
    have hZ := hZ.put (hAZ _ (.inr rfl)) hq
    have f_s : PAt G M x (nI an) (nI en) (nI sp_5) wr_5 (nI 0) (upd (upd sv (546 + (3 * ((10 * (nI an)) + (sv (538 + (nI an)).toNatClampNeg)))).toNatClampNeg v_1) ((546 + (3 * ((10 * (nI an)) + (sv (538 + (nI an)).toNatClampNeg)))) + 1).toNatClampNeg v_3) H := f_s.row hN hn hq
    refine lv_aload_n hx hb dX6_overs_89 rfl (lv_at hl 4 rfl) ?_
    refine r_get (C := RX6) (T := TX6) (N := 18) hx hb hts i_X6_overs_X6 hown hK f_s.1 rfl 1 (by decide) k_X6_overs_fieldLink_9 rfl rfl dX6_overs_90 ?_
    refine lv_iload hx hb dX6_overs_93 (lv_at hl 0 rfl) ?_
    refine lv_iconst (v := 2) hx hb dX6_overs_95 (by decide) ?_
    refine lv_iadd hx hb dX6_overs_96 ?_
    refine lv_iload_n hx hb dX6_overs_97 rfl (lv_at hl 1 rfl) ?_
    refine w_iast hx hb hK f_s.2.1 hS (.inr rfl) (vp_ib (lo := 548) (hi := 788) (ib_add (ib_add (ib_nI (n := 546) (by decide)) (ib_mulk (k := 3) (ib_add (ib_mulk (k := 10) (ib_lt (n := 8) (by omega) (by decide)) (by decide) (by decide) (by decide)) hg.2.2 (by decide) (by decide)) (by decide) (by decide) (by decide)) (by decide) (by decide)) (ib_nI (n := 2) (by decide)) (by decide) (by decide)) (by decide) (by decide)) dX6_overs_98 (fun H locs hn hq hS => ?_)
    have hZ := hZ.put (hAZ _ (.inr rfl)) hq
    have f_s : PAt G M x (nI an) (nI en) (nI sp_5) wr_5 (nI 0) (upd (upd (upd sv (546 + (3 * ((10 * (nI an)) + (sv (538 + (nI an)).toNatClampNeg)))).toNatClampNeg v_1) ((546 + (3 * ((10 * (nI an)) + (sv (538 + (nI an)).toNatClampNeg)))) + 1).toNatClampNeg v_3) ((546 + (3 * ((10 * (nI an)) + (sv (538 + (nI an)).toNatClampNeg)))) + 2).toNatClampNeg v_5) H := f_s.row hN hn hq
    refine lv_aload_n hx hb dX6_overs_99 rfl (lv_at hl 4 rfl) ?_
    refine r_get (C := RX6) (T := TX6) (N := 18) hx hb hts i_X6_overs_X6 hown hK f_s.1 rfl 1 (by decide) k_X6_overs_fieldLink_9 rfl rfl dX6_overs_100 ?_
    refine lv_sipush (v := 538) hx hb dX6_overs_103 (by decide +kernel) ?_
    refine lv_aload_n hx hb dX6_overs_106 rfl (lv_at hl 4 rfl) ?_
    refine r_get (C := RX6) (T := TX6) (N := 18) hx hb hts i_X6_overs_X6 hown hK f_s.1 rfl 4 (by decide) k_X6_overs_fieldLink_78 rfl rfl dX6_overs_107 ?_
    refine lv_iadd hx hb dX6_overs_110 ?_
    refine lv_dup2_11 hx hb dX6_overs_111 rfl rfl ?_
    refine r_iald hx hb hK f_s.2.1 (vp_ib (lo := 538) (hi := 545) (ib_add (ib_nI (n := 538) (by decide)) (ib_lt (n := 8) (by omega) (by decide)) (by decide) (by decide)) (by decide) (by decide)) dX6_overs_112 ?_
    refine lv_iconst (v := 1) hx hb dX6_overs_113 (by decide) ?_
    refine lv_iadd hx hb dX6_overs_114 ?_
    refine w_iast hx hb hK f_s.2.1 hS (.inr rfl) (vp_ib (lo := 538) (hi := 545) (ib_add (ib_nI (n := 538) (by decide)) (ib_lt (n := 8) (by omega) (by decide)) (by decide) (by decide)) (by decide) (by decide)) dX6_overs_115 (fun H locs hn hq hS => ?_)
    have hZ := hZ.put (hAZ _ (.inr rfl)) hq
    have f_s : PAt G M x (nI an) (nI en) (nI sp_5) wr_5 (nI 0) (upd (upd (upd (upd sv (546 + (3 * ((10 * (nI an)) + (sv (538 + (nI an)).toNatClampNeg)))).toNatClampNeg v_1) ((546 + (3 * ((10 * (nI an)) + (sv (538 + (nI an)).toNatClampNeg)))) + 1).toNatClampNeg v_3) ((546 + (3 * ((10 * (nI an)) + (sv (538 + (nI an)).toNatClampNeg)))) + 2).toNatClampNeg v_5) (538 + (nI an)).toNatClampNeg (((upd (upd (upd sv (546 + (3 * ((10 * (nI an)) + (sv (538 + (nI an)).toNatClampNeg)))).toNatClampNeg v_1) ((546 + (3 * ((10 * (nI an)) + (sv (538 + (nI an)).toNatClampNeg)))) + 1).toNatClampNeg v_3) ((546 + (3 * ((10 * (nI an)) + (sv (538 + (nI an)).toNatClampNeg)))) + 2).toNatClampNeg v_5) (538 + (nI an)).toNatClampNeg) + 1)) H := f_s.row hN hn hq
    have hE9 : r_overs an en sp wr sv = (sp_5, wr_5, upd (upd (upd (upd sv (546 + (3 * ((10 * (nI an)) + (sv (538 + (nI an)).toNatClampNeg)))).toNatClampNeg v_1) ((546 + (3 * ((10 * (nI an)) + (sv (538 + (nI an)).toNatClampNeg)))) + 1).toNatClampNeg v_3) ((546 + (3 * ((10 * (nI an)) + (sv (538 + (nI an)).toNatClampNeg)))) + 2).toNatClampNeg v_5) (538 + (nI an)).toNatClampNeg (((upd (upd (upd sv (546 + (3 * ((10 * (nI an)) + (sv (538 + (nI an)).toNatClampNeg)))).toNatClampNeg v_1) ((546 + (3 * ((10 * (nI an)) + (sv (538 + (nI an)).toNatClampNeg)))) + 1).toNatClampNeg v_3) ((546 + (3 * ((10 * (nI an)) + (sv (538 + (nI an)).toNatClampNeg)))) + 2).toNatClampNeg v_5) (538 + (nI an)).toNatClampNeg) + 1)) := (by (try unfold r_overs); (try rw [hy_0]); (try dsimp only); (try rw [hy_1]); (try dsimp only); (try rw [hy_2]); (try dsimp only); (try rw [hy_3]); (try dsimp only); (try rw [hy_4]); (try dsimp only); (try rw [hy_5]); (try dsimp only); (repeat rw [if_neg h_1]); first | done | rfl)
    exact wr_vret hx hb hr hlocks dX6_overs_116 hS (by rw [hE9]; exact f_s)
theorem c2_X6_overs (l : Launch) (G : GG) (Z : AM) (M : Nat → Nat) (x : MT) (an en sp : Nat) (wr : Bool) (op : Nat) (sv : Nat → Int32)  (hN : mN M) (hAZ : ∀ q : Nat, m01 M q → Z.1 q) (hen : en ≤ 120) (han : an < 8) (hg : gd an en 0 sp sv) (sp9 : Nat) (wr9 : Bool) (sv9 : Nat → Int32) (hy9 : r_overs an en sp wr sv = (sp9, wr9, sv9)) : Met l yX6_overs wsX6_overs { frames := 5, cells := 0, slots := 0, locals := 107 } (aP G Z [.ref (M 0)] (fun H => PAt G M x (nI an) (nI en) (nI sp) wr (nI 0) sv H)) (wrQ none (fun H => PAt G M x (nI an) (nI en) (nI sp9) wr9 (nI 0) sv9 H) (m01 M)) 0 0 (m01 M) := by
  have h9 := c_X6_overs l G Z M x an en sp wr op sv hN hAZ hen han hg
  rw [hy9] at h9
  exact h9
theorem i_X6_sayings_X6 : ∀ w ∈ wsX60, w ∈ wsX6_sayings := fun _ h => List.mem_cons_of_mem _ (List.mem_append_right _ h)
theorem k_X6_sayings_fieldLink_57 : Cond.fieldLink RX6 57 "SameWaterModel" "isWrong" "Z" ∈ wsX6_sayings := by decide +kernel
theorem k_X6_sayings_fieldLink_9 : Cond.fieldLink RX6 9 "SameWaterModel" "s" "[I" ∈ wsX6_sayings := by decide +kernel
theorem k_X6_sayings_fieldLink_78 : Cond.fieldLink RX6 78 "SameWaterModel" "act" "I" ∈ wsX6_sayings := by decide +kernel
def r_sayings (an en : Nat) (P : PF6) (sp : Nat) (wr : Bool) (sv : Nat → Int32) : Nat × Bool × (Nat → Int32) := (match r_must an en 115 sp wr sv with | (sp_0, wr_0) => if wr_0 = true then (match r_spells an en 12 sp_0 wr_0 sv with | (sp_1, wr_1) => (match r_figure an en 2 sp_1 wr_1 sv with | (v_2, sp_2, wr_2) => (match r_must an en 32 sp_2 wr_2 sv with | (sp_3, wr_3) => (match P sp_3 wr_3 sv with | (sp_4, wr_4, sv_4) => (sp_4, wr_4, (r_emits an en ((-10) - v_2) wr_4 sv_4)))))) else if (r_here en sp_0 sv) = 108 then (match r_spells an en 11 sp_0 wr_0 sv with | (sp_1, wr_1) => (match r_figures an en sp_1 wr_1 sv with | (v_2, sp_2, wr_2) => (sp_2, wr_2, upd sv (498 + (nI an)).toNatClampNeg (if wr_2 = true then sv (498 + (nI an)).toNatClampNeg else if v_2 ≤ 100 then v_2 else 100)))) else (match r_spells an en 12 sp_0 wr_0 sv with | (sp_1, wr_1) => (match r_figure an en 2 sp_1 wr_1 sv with | (v_2, sp_2, wr_2) => (match r_must an en 32 sp_2 wr_2 sv with | (sp_3, wr_3) => (match P sp_3 wr_3 sv with | (sp_4, wr_4, sv_4) => (sp_4, wr_4, (r_emits an en ((-10) - v_2) wr_4 sv_4)))))))
set_option maxHeartbeats 150000 in
set_option maxRecDepth 100000 in
theorem c_X6_sayings (l : Launch) (G : GG) (Z : AM) (M : Nat → Nat) (x : MT) (an en sp : Nat) (wr : Bool) (op : Nat) (sv : Nat → Int32)  (hN : mN M) (hAZ : ∀ q : Nat, m01 M q → Z.1 q) (hen : en ≤ 120) (han : an < 8) (hg : gd an en 0 sp sv) (P : PF6) (hP : cRm l G Z M x an en yX6_some wsX6_some { frames := 27, cells := 0, slots := 0, locals := 980 } 0 P) (hPo : pOK an en P) : Met l yX6_sayings wsX6_sayings { frames := 28, cells := 0, slots := 0, locals := 1000 } (aP G Z [.ref (M 0)] (fun H => PAt G M x (nI an) (nI en) (nI sp) wr (nI 0) sv H)) (wrQ none (fun H => PAt G M x (nI an) (nI en) (nI ((r_sayings an en P sp wr sv).1)) ((r_sayings an en P sp wr sv).2.1) (nI 0) ((r_sayings an en P sp wr sv).2.2) H) (m01 M)) 0 0 (m01 M) := by
  refine Met.ofW (cc := cX6_sayings) (maxL := 2) (ret := none) (by decide) rfl ?_
  intro p e s m args below meth c s₁ Bd hml hv
  obtain ⟨rfl, hK, hZ, hB⟩ := hv
  have hx := Bd.exec
  have hb := Bd.bytes
  have hr := Bd.returns
  have hts := atoms_spec (ws := wsX6_sayings) Bd.pre
  have hown : s.vm.findClass RX6 = some m.cls := findClass_of_methodNamed Bd.named
  have hlocks := Bd.notSynchronized
  have hC : CallFix p m c cX6_sayings 2 s _ wsX6_sayings RX6 := ⟨hx, hb, hml, hown, hts⟩
  have hl := lv_entry ([.ref (M 0)]) (n := 2) (Nat.le_of_ble_eq_true rfl)
  rw [lg_entry_eq]
  generalize (lg_sl ([.ref (M 0)]) ++ List.replicate (2 - (lg_sl ([.ref (M 0)])).length) Slot.unset).toArray = ls at hl ⊢
  have hl : lv_has ls 2 [(0, .ref (M 0))] := hl
  have hS : wS (m01 M) s.heap s.heap [] := wS.rf
  have f_s := hB
  have hsp : sp ≤ en := hg.1
  refine lv_aload_n hx hb dX6_sayings_0 rfl (lv_at hl 0 rfl) ?_
  refine lv_bipush (v := 115) hx hb dX6_sayings_1 (by decide +kernel) ?_
  obtain ⟨⟨sp_0, wr_0⟩, hy_0⟩ : ∃ z9, r_must an en 115 sp wr sv = z9 := ⟨_, rfl⟩
  refine wr_callv (va_runV (As := [.int 115]) (rest := []) hC (c2_X6_must l G M x an en sp wr 0 sv 115 hN hen (by omega) sp_0 wr_0 hy_0) (cwV 1 hts gX6_sayings_X6_must rfl rfl rfl kd_X6_must ⟨Nat.le_of_ble_eq_true rfl, Nat.le_of_ble_eq_true rfl⟩) (ro_preV hK f_s.1 rfl f_s) rfl rfl hl.1 rfl (lv_room (Nat.le_of_ble_eq_true rfl)) dX6_sayings_3 ⟨Nat.zero_le _, Nat.zero_le _⟩) hS (fun q h => h) (fun H locs f_n hq hS => ?_)
  have hZ := hZ.kept (fun a9 h9 => hq a9 (fun z9 => h9 (hAZ a9 ((fun q h => h) a9 z9))))
  have f_s := f_n
  have hq_0 := E_must hy_0 (by first | decide | exact txB_nn _ _) hen (by omega)
  refine lv_aload_n hx hb dX6_sayings_6 rfl (lv_at hl 0 rfl) ?_
  refine r_get (C := RX6) (T := TX6) (N := 18) hx hb hts i_X6_sayings_X6 hown hK f_s.1 rfl 7 (by decide) k_X6_sayings_fieldLink_57 rfl rfl dX6_sayings_7 ?_
  refine bz_ne (tgt := 82) hx hb dX6_sayings_10 (by decide) (fun h_1 => ?_) (fun h_1 => ?_)
  · have h_1 : wr_0 = true := h_1
    refine lv_aload_n hx hb dX6_sayings_82 rfl (lv_at hl 0 rfl) ?_
    refine va_ldcS hx hb hown (hZ.2.2.2.2.2 12 (by decide)) dX6_sayings_83 ?_
    obtain ⟨⟨sp_1, wr_1⟩, hy_1⟩ : ∃ z9, r_spells an en 12 sp_0 wr_0 sv = z9 := ⟨_, rfl⟩
    refine wr_callv (va_runV (As := [.ref (zK Z 12)]) (rest := []) hC (c2_X6_spells l G Z M x an en sp_0 wr_0 0 sv 12 hN hAZ hen (by omega) (by decide) sp_1 wr_1 hy_1) (cwV 1 hts gX6_sayings_X6_spells rfl rfl rfl kd_X6_spells ⟨Nat.le_of_ble_eq_true rfl, Nat.le_of_ble_eq_true rfl⟩) (a_preV hK hZ f_s.1 rfl f_s) rfl rfl hl.1 rfl (lv_room (Nat.le_of_ble_eq_true rfl)) dX6_sayings_85 ⟨Nat.zero_le _, Nat.zero_le _⟩) hS (fun q h => h) (fun H locs f_n hq hS => ?_)
    have hZ := hZ.kept (fun a9 h9 => hq a9 (fun z9 => h9 (hAZ a9 ((fun q h => h) a9 z9))))
    have f_s := f_n
    have hq_1 := E_spells hy_1 hen (by omega)
    refine lv_aload_n hx hb dX6_sayings_88 rfl (lv_at hl 0 rfl) ?_
    refine lv_iconst (v := 2) hx hb dX6_sayings_89 (by decide) ?_
    obtain ⟨⟨v_2, sp_2, wr_2⟩, hy_2⟩ : ∃ z9, r_figure an en 2 sp_1 wr_1 sv = z9 := ⟨_, rfl⟩
    refine wr_call (va_runV (As := [.int 2]) (rest := []) hC (c2_X6_figure l G M x an en sp_1 wr_1 0 sv 2 hN hen (by omega) v_2 sp_2 wr_2 hy_2) (cwV 1 hts gX6_sayings_X6_figure rfl rfl rfl kd_X6_figure ⟨Nat.le_of_ble_eq_true rfl, Nat.le_of_ble_eq_true rfl⟩) (ro_preV hK f_s.1 rfl f_s) rfl rfl hl.1 rfl (lv_room (Nat.le_of_ble_eq_true rfl)) dX6_sayings_90 ⟨Nat.zero_le _, Nat.zero_le _⟩) hS (fun q h => h) (fun H locs f_n hq hS => ?_)
    have hZ := hZ.kept (fun a9 h9 => hq a9 (fun z9 => h9 (hAZ a9 ((fun q h => h) a9 z9))))
    have f_s := f_n
    have hq_2 := E_figure (high := 2) hy_2 (by decide) hen (by omega)
    refine lv_istore_n (lv' := [(1, .int v_2), (0, .ref (M 0))]) hx hb dX6_sayings_93 rfl hl (by decide) rfl (fun ls hl => ?_)
    refine lv_aload_n hx hb dX6_sayings_94 rfl (lv_at hl 1 rfl) ?_
    refine lv_bipush (v := 32) hx hb dX6_sayings_95 (by decide +kernel) ?_
    obtain ⟨⟨sp_3, wr_3⟩, hy_3⟩ : ∃ z9, r_must an en 32 sp_2 wr_2 sv = z9 := ⟨_, rfl⟩
    refine wr_callv (va_runV (As := [.int 32]) (rest := []) hC (c2_X6_must l G M x an en sp_2 wr_2 0 sv 32 hN hen (by omega) sp_3 wr_3 hy_3) (cwV 1 hts gX6_sayings_X6_must rfl rfl rfl kd_X6_must ⟨Nat.le_of_ble_eq_true rfl, Nat.le_of_ble_eq_true rfl⟩) (ro_preV hK f_s.1 rfl f_s) rfl rfl hl.1 rfl (lv_room (Nat.le_of_ble_eq_true rfl)) dX6_sayings_97 ⟨Nat.zero_le _, Nat.zero_le _⟩) hS (fun q h => h) (fun H locs f_n hq hS => ?_)
    have hZ := hZ.kept (fun a9 h9 => hq a9 (fun z9 => h9 (hAZ a9 ((fun q h => h) a9 z9))))
    have f_s := f_n
    have hq_3 := E_must hy_3 (by first | decide | exact txB_nn _ _) hen (by omega)
    refine lv_aload_n hx hb dX6_sayings_100 rfl (lv_at hl 1 rfl) ?_
    obtain ⟨⟨sp_4, wr_4, sv_4⟩, hy_4⟩ : ∃ z9, P sp_3 wr_3 sv = z9 := ⟨_, rfl⟩
    refine wr_callv (va_runV (As := []) (rest := []) hC (cRm.at hP sp_3 wr_3 sv (gd.up (sp2 := sp_3) (gd.up (sp2 := sp_2) (gd.up (sp2 := sp_1) (gd.up (sp2 := sp_0) hg (by omega) (by omega)) (by omega) (by omega)) (by omega) (by omega)) (by omega) (by omega)) sp_4 wr_4 sv_4 hy_4) (cwV 0 hts gX6_sayings_X6_some rfl rfl rfl kd_X6_some ⟨Nat.le_of_ble_eq_true rfl, Nat.le_of_ble_eq_true rfl⟩) (a_preV hK hZ f_s.1 rfl f_s) rfl rfl hl.1 rfl (lv_room (Nat.le_of_ble_eq_true rfl)) dX6_sayings_101 ⟨Nat.zero_le _, Nat.zero_le _⟩) hS (fun q h => h) (fun H locs f_n hq hS => ?_)
    have hZ := hZ.kept (fun a9 h9 => hq a9 (fun z9 => h9 (hAZ a9 ((fun q h => h) a9 z9))))
    have f_s := f_n
    have hg4 := hPo.z (gd.up (sp2 := sp_3) (gd.up (sp2 := sp_2) (gd.up (sp2 := sp_1) (gd.up (sp2 := sp_0) hg (by omega) (by omega)) (by omega) (by omega)) (by omega) (by omega)) (by omega) (by omega)) hy_4
    have hz4 := hg4.1
    refine lv_aload_n hx hb dX6_sayings_104 rfl (lv_at hl 1 rfl) ?_
    refine lv_bipush (v := (-10)) hx hb dX6_sayings_105 (by decide +kernel) ?_
    refine lv_iload_n hx hb dX6_sayings_107 rfl (lv_at hl 0 rfl) ?_
    refine lv_isub hx hb dX6_sayings_108 ?_
    refine wr_callv (va_runV (As := [.int ((-10) - v_2)]) (rest := []) hC (c_X6_emits l G M x an en sp_4 wr_4 0 sv_4 ((-10) - v_2) hN hen (by omega) han hg4.2) (cwV 1 hts gX6_sayings_X6_emits rfl rfl rfl kd_X6_emits ⟨Nat.le_of_ble_eq_true rfl, Nat.le_of_ble_eq_true rfl⟩) (ro_preV hK f_s.1 rfl f_s) rfl rfl hl.1 rfl (lv_room (Nat.le_of_ble_eq_true rfl)) dX6_sayings_109 ⟨Nat.zero_le _, Nat.zero_le _⟩) hS (fun q h => h) (fun H locs f_n hq hS => ?_)
    have hZ := hZ.kept (fun a9 h9 => hq a9 (fun z9 => h9 (hAZ a9 ((fun q h => h) a9 z9))))
    have f_s := f_n
    have hE9 : r_sayings an en P sp wr sv = (sp_4, wr_4, (r_emits an en ((-10) - v_2) wr_4 sv_4)) := (by (try unfold r_sayings); (try rw [hy_0]); (try dsimp only); (repeat rw [if_pos h_1]); (try rw [hy_1]); (try dsimp only); (try rw [hy_2]); (try dsimp only); (try rw [hy_3]); (try dsimp only); (try rw [hy_4]); (try dsimp only); first | done | rfl)
    exact wr_vret hx hb hr hlocks dX6_sayings_112 hS (by rw [hE9]; exact f_s)
  · have h_1 : ¬ (wr_0 = true) := h_1
    refine lv_aload_n hx hb dX6_sayings_13 rfl (lv_at hl 0 rfl) ?_
    refine ro_call (va_runV (As := []) (rest := []) hC (c_X6_here l G M x an en sp_0 wr_0 0 sv hen (by omega)) (cwV 0 hts gX6_sayings_X6_here rfl rfl rfl kd_X6_here ⟨Nat.le_of_ble_eq_true rfl, Nat.le_of_ble_eq_true rfl⟩) (ro_preV hK f_s.1 rfl f_s) rfl rfl hl.1 rfl (lv_room (Nat.le_of_ble_eq_true rfl)) dX6_sayings_14 ⟨Nat.zero_le _, Nat.zero_le _⟩) ?_
    refine lv_bipush (v := 108) hx hb dX6_sayings_17 (by decide +kernel) ?_
    refine lv_icmp_ne (tgt := 82) hx hb dX6_sayings_19 (by decide) (fun h_2 => ?_) (fun h_2 => ?_)
    · have h_2 : ¬ ((r_here en sp_0 sv) = 108) := h_2
      refine lv_aload_n hx hb dX6_sayings_82 rfl (lv_at hl 0 rfl) ?_
      refine va_ldcS hx hb hown (hZ.2.2.2.2.2 12 (by decide)) dX6_sayings_83 ?_
      obtain ⟨⟨sp_1, wr_1⟩, hy_1⟩ : ∃ z9, r_spells an en 12 sp_0 wr_0 sv = z9 := ⟨_, rfl⟩
      refine wr_callv (va_runV (As := [.ref (zK Z 12)]) (rest := []) hC (c2_X6_spells l G Z M x an en sp_0 wr_0 0 sv 12 hN hAZ hen (by omega) (by decide) sp_1 wr_1 hy_1) (cwV 1 hts gX6_sayings_X6_spells rfl rfl rfl kd_X6_spells ⟨Nat.le_of_ble_eq_true rfl, Nat.le_of_ble_eq_true rfl⟩) (a_preV hK hZ f_s.1 rfl f_s) rfl rfl hl.1 rfl (lv_room (Nat.le_of_ble_eq_true rfl)) dX6_sayings_85 ⟨Nat.zero_le _, Nat.zero_le _⟩) hS (fun q h => h) (fun H locs f_n hq hS => ?_)
      have hZ := hZ.kept (fun a9 h9 => hq a9 (fun z9 => h9 (hAZ a9 ((fun q h => h) a9 z9))))
      have f_s := f_n
      have hq_1 := E_spells hy_1 hen (by omega)
      refine lv_aload_n hx hb dX6_sayings_88 rfl (lv_at hl 0 rfl) ?_
      refine lv_iconst (v := 2) hx hb dX6_sayings_89 (by decide) ?_
      obtain ⟨⟨v_2, sp_2, wr_2⟩, hy_2⟩ : ∃ z9, r_figure an en 2 sp_1 wr_1 sv = z9 := ⟨_, rfl⟩
      refine wr_call (va_runV (As := [.int 2]) (rest := []) hC (c2_X6_figure l G M x an en sp_1 wr_1 0 sv 2 hN hen (by omega) v_2 sp_2 wr_2 hy_2) (cwV 1 hts gX6_sayings_X6_figure rfl rfl rfl kd_X6_figure ⟨Nat.le_of_ble_eq_true rfl, Nat.le_of_ble_eq_true rfl⟩) (ro_preV hK f_s.1 rfl f_s) rfl rfl hl.1 rfl (lv_room (Nat.le_of_ble_eq_true rfl)) dX6_sayings_90 ⟨Nat.zero_le _, Nat.zero_le _⟩) hS (fun q h => h) (fun H locs f_n hq hS => ?_)
      have hZ := hZ.kept (fun a9 h9 => hq a9 (fun z9 => h9 (hAZ a9 ((fun q h => h) a9 z9))))
      have f_s := f_n
      have hq_2 := E_figure (high := 2) hy_2 (by decide) hen (by omega)
      refine lv_istore_n (lv' := [(1, .int v_2), (0, .ref (M 0))]) hx hb dX6_sayings_93 rfl hl (by decide) rfl (fun ls hl => ?_)
      refine lv_aload_n hx hb dX6_sayings_94 rfl (lv_at hl 1 rfl) ?_
      refine lv_bipush (v := 32) hx hb dX6_sayings_95 (by decide +kernel) ?_
      obtain ⟨⟨sp_3, wr_3⟩, hy_3⟩ : ∃ z9, r_must an en 32 sp_2 wr_2 sv = z9 := ⟨_, rfl⟩
      refine wr_callv (va_runV (As := [.int 32]) (rest := []) hC (c2_X6_must l G M x an en sp_2 wr_2 0 sv 32 hN hen (by omega) sp_3 wr_3 hy_3) (cwV 1 hts gX6_sayings_X6_must rfl rfl rfl kd_X6_must ⟨Nat.le_of_ble_eq_true rfl, Nat.le_of_ble_eq_true rfl⟩) (ro_preV hK f_s.1 rfl f_s) rfl rfl hl.1 rfl (lv_room (Nat.le_of_ble_eq_true rfl)) dX6_sayings_97 ⟨Nat.zero_le _, Nat.zero_le _⟩) hS (fun q h => h) (fun H locs f_n hq hS => ?_)
      have hZ := hZ.kept (fun a9 h9 => hq a9 (fun z9 => h9 (hAZ a9 ((fun q h => h) a9 z9))))
      have f_s := f_n
      have hq_3 := E_must hy_3 (by first | decide | exact txB_nn _ _) hen (by omega)
      refine lv_aload_n hx hb dX6_sayings_100 rfl (lv_at hl 1 rfl) ?_
      obtain ⟨⟨sp_4, wr_4, sv_4⟩, hy_4⟩ : ∃ z9, P sp_3 wr_3 sv = z9 := ⟨_, rfl⟩
      refine wr_callv (va_runV (As := []) (rest := []) hC (cRm.at hP sp_3 wr_3 sv (gd.up (sp2 := sp_3) (gd.up (sp2 := sp_2) (gd.up (sp2 := sp_1) (gd.up (sp2 := sp_0) hg (by omega) (by omega)) (by omega) (by omega)) (by omega) (by omega)) (by omega) (by omega)) sp_4 wr_4 sv_4 hy_4) (cwV 0 hts gX6_sayings_X6_some rfl rfl rfl kd_X6_some ⟨Nat.le_of_ble_eq_true rfl, Nat.le_of_ble_eq_true rfl⟩) (a_preV hK hZ f_s.1 rfl f_s) rfl rfl hl.1 rfl (lv_room (Nat.le_of_ble_eq_true rfl)) dX6_sayings_101 ⟨Nat.zero_le _, Nat.zero_le _⟩) hS (fun q h => h) (fun H locs f_n hq hS => ?_)
      have hZ := hZ.kept (fun a9 h9 => hq a9 (fun z9 => h9 (hAZ a9 ((fun q h => h) a9 z9))))
      have f_s := f_n
      have hg4 := hPo.z (gd.up (sp2 := sp_3) (gd.up (sp2 := sp_2) (gd.up (sp2 := sp_1) (gd.up (sp2 := sp_0) hg (by omega) (by omega)) (by omega) (by omega)) (by omega) (by omega)) (by omega) (by omega)) hy_4
      have hz4 := hg4.1
      refine lv_aload_n hx hb dX6_sayings_104 rfl (lv_at hl 1 rfl) ?_
      refine lv_bipush (v := (-10)) hx hb dX6_sayings_105 (by decide +kernel) ?_
      refine lv_iload_n hx hb dX6_sayings_107 rfl (lv_at hl 0 rfl) ?_
      refine lv_isub hx hb dX6_sayings_108 ?_
      refine wr_callv (va_runV (As := [.int ((-10) - v_2)]) (rest := []) hC (c_X6_emits l G M x an en sp_4 wr_4 0 sv_4 ((-10) - v_2) hN hen (by omega) han hg4.2) (cwV 1 hts gX6_sayings_X6_emits rfl rfl rfl kd_X6_emits ⟨Nat.le_of_ble_eq_true rfl, Nat.le_of_ble_eq_true rfl⟩) (ro_preV hK f_s.1 rfl f_s) rfl rfl hl.1 rfl (lv_room (Nat.le_of_ble_eq_true rfl)) dX6_sayings_109 ⟨Nat.zero_le _, Nat.zero_le _⟩) hS (fun q h => h) (fun H locs f_n hq hS => ?_)
      have hZ := hZ.kept (fun a9 h9 => hq a9 (fun z9 => h9 (hAZ a9 ((fun q h => h) a9 z9))))
      have f_s := f_n
      have hE9 : r_sayings an en P sp wr sv = (sp_4, wr_4, (r_emits an en ((-10) - v_2) wr_4 sv_4)) := (by (try unfold r_sayings); (try rw [hy_0]); (try dsimp only); (repeat rw [if_neg h_1]); (repeat rw [if_neg h_2]); (try rw [hy_1]); (try dsimp only); (try rw [hy_2]); (try dsimp only); (try rw [hy_3]); (try dsimp only); (try rw [hy_4]); (try dsimp only); first | done | rfl)
      exact wr_vret hx hb hr hlocks dX6_sayings_112 hS (by rw [hE9]; exact f_s)
    · have h_2 : (r_here en sp_0 sv) = 108 := h_2
      refine lv_aload_n hx hb dX6_sayings_22 rfl (lv_at hl 0 rfl) ?_
      refine va_ldcS hx hb hown (hZ.2.2.2.2.2 11 (by decide)) dX6_sayings_23 ?_
      obtain ⟨⟨sp_1, wr_1⟩, hy_1⟩ : ∃ z9, r_spells an en 11 sp_0 wr_0 sv = z9 := ⟨_, rfl⟩
      refine wr_callv (va_runV (As := [.ref (zK Z 11)]) (rest := []) hC (c2_X6_spells l G Z M x an en sp_0 wr_0 0 sv 11 hN hAZ hen (by omega) (by decide) sp_1 wr_1 hy_1) (cwV 1 hts gX6_sayings_X6_spells rfl rfl rfl kd_X6_spells ⟨Nat.le_of_ble_eq_true rfl, Nat.le_of_ble_eq_true rfl⟩) (a_preV hK hZ f_s.1 rfl f_s) rfl rfl hl.1 rfl (lv_room (Nat.le_of_ble_eq_true rfl)) dX6_sayings_25 ⟨Nat.zero_le _, Nat.zero_le _⟩) hS (fun q h => h) (fun H locs f_n hq hS => ?_)
      have hZ := hZ.kept (fun a9 h9 => hq a9 (fun z9 => h9 (hAZ a9 ((fun q h => h) a9 z9))))
      have f_s := f_n
      have hq_1 := E_spells hy_1 hen (by omega)
      refine lv_aload_n hx hb dX6_sayings_28 rfl (lv_at hl 0 rfl) ?_
      obtain ⟨⟨v_2, sp_2, wr_2⟩, hy_2⟩ : ∃ z9, r_figures an en sp_1 wr_1 sv = z9 := ⟨_, rfl⟩
      refine wr_call (va_runV (As := []) (rest := []) hC (c2_X6_figures l G M x an en sp_1 wr_1 0 sv hN hen (by omega) v_2 sp_2 wr_2 hy_2) (cwV 0 hts gX6_sayings_X6_figures rfl rfl rfl kd_X6_figures ⟨Nat.le_of_ble_eq_true rfl, Nat.le_of_ble_eq_true rfl⟩) (ro_preV hK f_s.1 rfl f_s) rfl rfl hl.1 rfl (lv_room (Nat.le_of_ble_eq_true rfl)) dX6_sayings_29 ⟨Nat.zero_le _, Nat.zero_le _⟩) hS (fun q h => h) (fun H locs f_n hq hS => ?_)
      have hZ := hZ.kept (fun a9 h9 => hq a9 (fun z9 => h9 (hAZ a9 ((fun q h => h) a9 z9))))
      have f_s := f_n
      have hq_2 := E_figures hy_2 hen (by omega)
      refine lv_istore_n (lv' := [(1, .int v_2), (0, .ref (M 0))]) hx hb dX6_sayings_32 rfl hl (by decide) rfl (fun ls hl => ?_)
      refine lv_aload_n hx hb dX6_sayings_33 rfl (lv_at hl 1 rfl) ?_
      refine r_get (C := RX6) (T := TX6) (N := 18) hx hb hts i_X6_sayings_X6 hown hK f_s.1 rfl 1 (by decide) k_X6_sayings_fieldLink_9 rfl rfl dX6_sayings_34 ?_
      refine lv_sipush (v := 498) hx hb dX6_sayings_37 (by decide +kernel) ?_
      refine lv_aload_n hx hb dX6_sayings_40 rfl (lv_at hl 1 rfl) ?_
      refine r_get (C := RX6) (T := TX6) (N := 18) hx hb hts i_X6_sayings_X6 hown hK f_s.1 rfl 4 (by decide) k_X6_sayings_fieldLink_78 rfl rfl dX6_sayings_41 ?_
      refine lv_iadd hx hb dX6_sayings_44 ?_
      refine lv_aload_n hx hb dX6_sayings_45 rfl (lv_at hl 1 rfl) ?_
      refine r_get (C := RX6) (T := TX6) (N := 18) hx hb hts i_X6_sayings_X6 hown hK f_s.1 rfl 7 (by decide) k_X6_sayings_fieldLink_57 rfl rfl dX6_sayings_46 ?_
      refine join_wr (nL := 2) 80 [(1, .int v_2), (0, .ref (M 0))] [.int (if wr_2 = true then sv (498 + (nI an)).toNatClampNeg else if v_2 ≤ 100 then v_2 else 100), .int (498 + (nI an)), .ref (M 1)] (fun H locs => (PAt G M x (nI an) (nI en) (nI sp_2) wr_2 (nI 0) sv H) ∧ wS (m01 M) s.heap H locs ∧ amK Z s H) (fun H locs hI ls hl => ?_) (fun J_3 => ?_)
      · obtain ⟨f_s, hS, hZ⟩ := hI
        refine w_iast hx hb hK f_s.2.1 hS (.inr rfl) (vp_ib (lo := 498) (hi := 505) (ib_add (ib_nI (n := 498) (by decide)) (ib_lt (n := 8) (by omega) (by decide)) (by decide) (by decide)) (by decide) (by decide)) dX6_sayings_80 (fun H locs hn hq hS => ?_)
        have hZ := hZ.put (hAZ _ (.inr rfl)) hq
        have f_s : PAt G M x (nI an) (nI en) (nI sp_2) wr_2 (nI 0) (upd sv (498 + (nI an)).toNatClampNeg (if wr_2 = true then sv (498 + (nI an)).toNatClampNeg else if v_2 ≤ 100 then v_2 else 100)) H := f_s.row hN hn hq
        have hE9 : r_sayings an en P sp wr sv = (sp_2, wr_2, upd sv (498 + (nI an)).toNatClampNeg (if wr_2 = true then sv (498 + (nI an)).toNatClampNeg else if v_2 ≤ 100 then v_2 else 100)) := (by (try unfold r_sayings); (try rw [hy_0]); (try dsimp only); (repeat rw [if_neg h_1]); (repeat rw [if_pos h_2]); (try rw [hy_1]); (try dsimp only); (try rw [hy_2]); (try dsimp only); first | done | rfl)
        exact wr_vret hx hb hr hlocks dX6_sayings_81 hS (by rw [hE9]; exact f_s)
      · refine bz_eq (tgt := 68) hx hb dX6_sayings_49 (by decide) (fun h_4 => ?_) (fun h_4 => ?_)
        · have h_4 : ¬ (wr_2 = true) := h_4
          refine lv_iload_n hx hb dX6_sayings_68 rfl (lv_at hl 0 rfl) ?_
          refine lv_bipush (v := 100) hx hb dX6_sayings_69 (by decide +kernel) ?_
          refine lv_icmp_le (tgt := 79) hx hb dX6_sayings_71 (by decide) (fun h_5 => ?_) (fun h_5 => ?_)
          · have h_5 : v_2 ≤ 100 := h_5
            refine lv_iload_n hx hb dX6_sayings_79 rfl (lv_at hl 0 rfl) ?_
            have hJ := J_3; (repeat rw [if_neg h_4] at hJ); (repeat rw [if_pos h_5] at hJ)
            (repeat rw [if_neg h_4] at f_s); (repeat rw [if_pos h_5] at f_s)
            first | exact hJ _ _ ⟨f_s, hS, hZ⟩ ls (lv_sub hl [0, 1] rfl) | ((repeat rw [if_neg h_4] at hl); (repeat rw [if_pos h_5] at hl); (repeat rw [if_neg h_4]); (repeat rw [if_pos h_5]); (repeat rw [if_neg h_4] at f_s); (repeat rw [if_pos h_5] at f_s); exact hJ _ _ ⟨f_s, hS, hZ⟩ ls (lv_sub hl [0, 1] rfl))
          · have h_5 : ¬ (v_2 ≤ 100) := h_5
            refine lv_bipush (v := 100) hx hb dX6_sayings_74 (by decide +kernel) ?_
            refine lv_goto (tgt := 80) hx hb dX6_sayings_76 (by decide) ?_
            have hJ := J_3; (repeat rw [if_neg h_4] at hJ); (repeat rw [if_neg h_5] at hJ)
            (repeat rw [if_neg h_4] at f_s); (repeat rw [if_neg h_5] at f_s)
            first | exact hJ _ _ ⟨f_s, hS, hZ⟩ ls (lv_sub hl [0, 1] rfl) | ((repeat rw [if_neg h_4] at hl); (repeat rw [if_neg h_5] at hl); (repeat rw [if_neg h_4]); (repeat rw [if_neg h_5]); (repeat rw [if_neg h_4] at f_s); (repeat rw [if_neg h_5] at f_s); exact hJ _ _ ⟨f_s, hS, hZ⟩ ls (lv_sub hl [0, 1] rfl))
        · have h_4 : wr_2 = true := h_4
          refine lv_aload_n hx hb dX6_sayings_52 rfl (lv_at hl 1 rfl) ?_
          refine r_get (C := RX6) (T := TX6) (N := 18) hx hb hts i_X6_sayings_X6 hown hK f_s.1 rfl 1 (by decide) k_X6_sayings_fieldLink_9 rfl rfl dX6_sayings_53 ?_
          refine lv_sipush (v := 498) hx hb dX6_sayings_56 (by decide +kernel) ?_
          refine lv_aload_n hx hb dX6_sayings_59 rfl (lv_at hl 1 rfl) ?_
          refine r_get (C := RX6) (T := TX6) (N := 18) hx hb hts i_X6_sayings_X6 hown hK f_s.1 rfl 4 (by decide) k_X6_sayings_fieldLink_78 rfl rfl dX6_sayings_60 ?_
          refine lv_iadd hx hb dX6_sayings_63 ?_
          refine r_iald hx hb hK f_s.2.1 (vp_ib (lo := 498) (hi := 505) (ib_add (ib_nI (n := 498) (by decide)) (ib_lt (n := 8) (by omega) (by decide)) (by decide) (by decide)) (by decide) (by decide)) dX6_sayings_64 ?_
          refine lv_goto (tgt := 80) hx hb dX6_sayings_65 (by decide) ?_
          have hJ := J_3; (repeat rw [if_pos h_4] at hJ)
          (repeat rw [if_pos h_4] at f_s)
          first | exact hJ _ _ ⟨f_s, hS, hZ⟩ ls (lv_sub hl [0, 1] rfl) | ((repeat rw [if_pos h_4] at hl); (repeat rw [if_pos h_4]); (repeat rw [if_pos h_4] at f_s); exact hJ _ _ ⟨f_s, hS, hZ⟩ ls (lv_sub hl [0, 1] rfl))
theorem c2_X6_sayings (l : Launch) (G : GG) (Z : AM) (M : Nat → Nat) (x : MT) (an en sp : Nat) (wr : Bool) (op : Nat) (sv : Nat → Int32)  (hN : mN M) (hAZ : ∀ q : Nat, m01 M q → Z.1 q) (hen : en ≤ 120) (han : an < 8) (hg : gd an en 0 sp sv) (P : PF6) (hP : cRm l G Z M x an en yX6_some wsX6_some { frames := 27, cells := 0, slots := 0, locals := 980 } 0 P) (hPo : pOK an en P) (sp9 : Nat) (wr9 : Bool) (sv9 : Nat → Int32) (hy9 : r_sayings an en P sp wr sv = (sp9, wr9, sv9)) : Met l yX6_sayings wsX6_sayings { frames := 28, cells := 0, slots := 0, locals := 1000 } (aP G Z [.ref (M 0)] (fun H => PAt G M x (nI an) (nI en) (nI sp) wr (nI 0) sv H)) (wrQ none (fun H => PAt G M x (nI an) (nI en) (nI sp9) wr9 (nI 0) sv9 H) (m01 M)) 0 0 (m01 M) := by
  have h9 := c_X6_sayings l G Z M x an en sp wr op sv hN hAZ hen han hg P hP hPo
  rw [hy9] at h9
  exact h9
theorem i_X6_clauseHere_X6 : ∀ w ∈ wsX60, w ∈ wsX6_clauseHere := fun _ h => List.mem_cons_of_mem _ (List.mem_append_right _ h)
theorem k_X6_clauseHere_fieldLink_57 : Cond.fieldLink RX6 57 "SameWaterModel" "isWrong" "Z" ∈ wsX6_clauseHere := by decide +kernel
theorem kd_X6_froms : yX6_froms.cls = RX6 ∧ yX6_froms.cls ≠ "java/lang/invoke/MethodHandle" ∧ yX6_froms.cls ≠ "java/lang/invoke/VarHandle" ∧ (parseMethodDescriptor yX6_froms.desc).map (fun d => d.parameters.length) = some 0 := by decide +kernel
theorem kd_X6_overs : yX6_overs.cls = RX6 ∧ yX6_overs.cls ≠ "java/lang/invoke/MethodHandle" ∧ yX6_overs.cls ≠ "java/lang/invoke/VarHandle" ∧ (parseMethodDescriptor yX6_overs.desc).map (fun d => d.parameters.length) = some 0 := by decide +kernel
theorem kd_X6_sayings : yX6_sayings.cls = RX6 ∧ yX6_sayings.cls ≠ "java/lang/invoke/MethodHandle" ∧ yX6_sayings.cls ≠ "java/lang/invoke/VarHandle" ∧ (parseMethodDescriptor yX6_sayings.desc).map (fun d => d.parameters.length) = some 0 := by decide +kernel
def r_clause (an en : Nat) (P : PF6) (sp : Nat) (wr : Bool) (sv : Nat → Int32) : Nat × Bool × (Nat → Int32) := if (r_here en sp sv) = 102 then (match r_froms an en sp wr sv with | (sp_0, wr_0, sv_0) => (sp_0, wr_0, sv_0)) else if (r_here en sp sv) = 111 then (match r_overs an en sp wr sv with | (sp_0, wr_0, sv_0) => (sp_0, wr_0, sv_0)) else if (r_here en sp sv) = 115 then (match r_sayings an en P sp wr sv with | (sp_0, wr_0, sv_0) => (sp_0, wr_0, sv_0)) else (sp, true, sv)
set_option maxHeartbeats 150000 in
set_option maxRecDepth 100000 in
theorem c_X6_clauseHere (l : Launch) (G : GG) (Z : AM) (M : Nat → Nat) (x : MT) (an en sp : Nat) (wr : Bool) (op : Nat) (sv : Nat → Int32)  (hN : mN M) (hAZ : ∀ q : Nat, m01 M q → Z.1 q) (hen : en ≤ 120) (han : an < 8) (hg : gd an en 0 sp sv) (P : PF6) (hP : cRm l G Z M x an en yX6_some wsX6_some { frames := 27, cells := 0, slots := 0, locals := 980 } 0 P) (hPo : pOK an en P) : Met l yX6_clauseHere wsX6_clauseHere { frames := 29, cells := 0, slots := 0, locals := 1021 } (aP G Z [.ref (M 0)] (fun H => PAt G M x (nI an) (nI en) (nI sp) wr (nI 0) sv H)) (wrQ none (fun H => PAt G M x (nI an) (nI en) (nI ((r_clause an en P sp wr sv).1)) ((r_clause an en P sp wr sv).2.1) (nI 0) ((r_clause an en P sp wr sv).2.2) H) (m01 M)) 0 0 (m01 M) := by
  refine Met.ofW (cc := cX6_clauseHere) (maxL := 1) (ret := none) (by decide) rfl ?_
  intro p e s m args below meth c s₁ Bd hml hv
  obtain ⟨rfl, hK, hZ, hB⟩ := hv
  have hx := Bd.exec
  have hb := Bd.bytes
  have hr := Bd.returns
  have hts := atoms_spec (ws := wsX6_clauseHere) Bd.pre
  have hown : s.vm.findClass RX6 = some m.cls := findClass_of_methodNamed Bd.named
  have hlocks := Bd.notSynchronized
  have hC : CallFix p m c cX6_clauseHere 1 s _ wsX6_clauseHere RX6 := ⟨hx, hb, hml, hown, hts⟩
  have hl := lv_entry ([.ref (M 0)]) (n := 1) (Nat.le_of_ble_eq_true rfl)
  rw [lg_entry_eq]
  generalize (lg_sl ([.ref (M 0)]) ++ List.replicate (1 - (lg_sl ([.ref (M 0)])).length) Slot.unset).toArray = ls at hl ⊢
  have hl : lv_has ls 1 [(0, .ref (M 0))] := hl
  have hS : wS (m01 M) s.heap s.heap [] := wS.rf
  have f_s := hB
  have hsp : sp ≤ en := hg.1
  refine lv_aload_n hx hb dX6_clauseHere_0 rfl (lv_at hl 0 rfl) ?_
  refine ro_call (va_runV (As := []) (rest := []) hC (c_X6_here l G M x an en sp wr 0 sv hen (by omega)) (cwV 0 hts gX6_clauseHere_X6_here rfl rfl rfl kd_X6_here ⟨Nat.le_of_ble_eq_true rfl, Nat.le_of_ble_eq_true rfl⟩) (ro_preV hK f_s.1 rfl f_s) rfl rfl hl.1 rfl (lv_room (Nat.le_of_ble_eq_true rfl)) dX6_clauseHere_1 ⟨Nat.zero_le _, Nat.zero_le _⟩) ?_
  rcases Classical.em ((r_here en sp sv) = 102) with h_1 | h_1
  · refine lv_lookup (off := 36) (tgt := 40) hx hb dX6_clauseHere_4 (by decide) (by rw [h_1]; rfl) (by decide) ?_
    refine lv_aload_n hx hb dX6_clauseHere_40 rfl (lv_at hl 0 rfl) ?_
    obtain ⟨⟨sp_0, wr_0, sv_0⟩, hy_0⟩ : ∃ z9, r_froms an en sp wr sv = z9 := ⟨_, rfl⟩
    refine wr_callv (va_runV (As := []) (rest := []) hC (c2_X6_froms l G Z M x an en sp wr 0 sv hN hAZ hen han hg sp_0 wr_0 sv_0 hy_0) (cwV 0 hts gX6_clauseHere_X6_froms rfl rfl rfl kd_X6_froms ⟨Nat.le_of_ble_eq_true rfl, Nat.le_of_ble_eq_true rfl⟩) (a_preV hK hZ f_s.1 rfl f_s) rfl rfl hl.1 rfl (lv_room (Nat.le_of_ble_eq_true rfl)) dX6_clauseHere_41 ⟨Nat.zero_le _, Nat.zero_le _⟩) hS (fun q h => h) (fun H locs f_n hq hS => ?_)
    have hZ := hZ.kept (fun a9 h9 => hq a9 (fun z9 => h9 (hAZ a9 ((fun q h => h) a9 z9))))
    have f_s := f_n
    refine lv_goto (tgt := 66) hx hb dX6_clauseHere_44 (by decide) ?_
    have hE9 : r_clause an en P sp wr sv = (sp_0, wr_0, sv_0) := (by (try unfold r_clause); (repeat rw [if_pos h_1]); (try rw [hy_0]); (try dsimp only); first | done | rfl)
    exact wr_vret hx hb hr hlocks dX6_clauseHere_66 hS (by rw [hE9]; exact f_s)
  · rcases Classical.em ((r_here en sp sv) = 111) with h_2 | h_2
    · refine lv_lookup (off := 43) (tgt := 47) hx hb dX6_clauseHere_4 (by decide) ((lv_osw h_1 (by decide)).trans (by rw [h_2]; rfl)) (by decide) ?_
      refine lv_aload_n hx hb dX6_clauseHere_47 rfl (lv_at hl 0 rfl) ?_
      obtain ⟨⟨sp_0, wr_0, sv_0⟩, hy_0⟩ : ∃ z9, r_overs an en sp wr sv = z9 := ⟨_, rfl⟩
      refine wr_callv (va_runV (As := []) (rest := []) hC (c2_X6_overs l G Z M x an en sp wr 0 sv hN hAZ hen han hg sp_0 wr_0 sv_0 hy_0) (cwV 0 hts gX6_clauseHere_X6_overs rfl rfl rfl kd_X6_overs ⟨Nat.le_of_ble_eq_true rfl, Nat.le_of_ble_eq_true rfl⟩) (a_preV hK hZ f_s.1 rfl f_s) rfl rfl hl.1 rfl (lv_room (Nat.le_of_ble_eq_true rfl)) dX6_clauseHere_48 ⟨Nat.zero_le _, Nat.zero_le _⟩) hS (fun q h => h) (fun H locs f_n hq hS => ?_)
      have hZ := hZ.kept (fun a9 h9 => hq a9 (fun z9 => h9 (hAZ a9 ((fun q h => h) a9 z9))))
      have f_s := f_n
      refine lv_goto (tgt := 66) hx hb dX6_clauseHere_51 (by decide) ?_
      have hE9 : r_clause an en P sp wr sv = (sp_0, wr_0, sv_0) := (by (try unfold r_clause); (repeat rw [if_neg h_1]); (repeat rw [if_pos h_2]); (try rw [hy_0]); (try dsimp only); first | done | rfl)
      exact wr_vret hx hb hr hlocks dX6_clauseHere_66 hS (by rw [hE9]; exact f_s)
    · rcases Classical.em ((r_here en sp sv) = 115) with h_3 | h_3
      · refine lv_lookup (off := 50) (tgt := 54) hx hb dX6_clauseHere_4 (by decide) ((lv_osw h_1 (by decide)).trans ((lv_osw h_2 (by decide)).trans (by rw [h_3]; rfl))) (by decide) ?_
        refine lv_aload_n hx hb dX6_clauseHere_54 rfl (lv_at hl 0 rfl) ?_
        obtain ⟨⟨sp_0, wr_0, sv_0⟩, hy_0⟩ : ∃ z9, r_sayings an en P sp wr sv = z9 := ⟨_, rfl⟩
        refine wr_callv (va_runV (As := []) (rest := []) hC (c2_X6_sayings l G Z M x an en sp wr 0 sv hN hAZ hen han hg P hP hPo sp_0 wr_0 sv_0 hy_0) (cwV 0 hts gX6_clauseHere_X6_sayings rfl rfl rfl kd_X6_sayings ⟨Nat.le_of_ble_eq_true rfl, Nat.le_of_ble_eq_true rfl⟩) (a_preV hK hZ f_s.1 rfl f_s) rfl rfl hl.1 rfl (lv_room (Nat.le_of_ble_eq_true rfl)) dX6_clauseHere_55 ⟨Nat.zero_le _, Nat.zero_le _⟩) hS (fun q h => h) (fun H locs f_n hq hS => ?_)
        have hZ := hZ.kept (fun a9 h9 => hq a9 (fun z9 => h9 (hAZ a9 ((fun q h => h) a9 z9))))
        have f_s := f_n
        refine lv_goto (tgt := 66) hx hb dX6_clauseHere_58 (by decide) ?_
        have hE9 : r_clause an en P sp wr sv = (sp_0, wr_0, sv_0) := (by (try unfold r_clause); (repeat rw [if_neg h_1]); (repeat rw [if_neg h_2]); (repeat rw [if_pos h_3]); (try rw [hy_0]); (try dsimp only); first | done | rfl)
        exact wr_vret hx hb hr hlocks dX6_clauseHere_66 hS (by rw [hE9]; exact f_s)
      · refine lv_lookup (off := 57) (tgt := 61) hx hb dX6_clauseHere_4 (by decide) ((lv_osw h_1 (by decide)).trans ((lv_osw h_2 (by decide)).trans ((lv_osw h_3 (by decide)).trans (rfl)))) (by decide) ?_
        refine lv_aload_n hx hb dX6_clauseHere_61 rfl (lv_at hl 0 rfl) ?_
        refine lv_iconst (v := 1) hx hb dX6_clauseHere_62 (by decide) ?_
        refine w_put (C := RX6) (T := TX6) (N := 18) hx hb hts i_X6_clauseHere_X6 tyX6 tyX6_ok nmX6 hown hK f_s.1 hS (.inl rfl) rfl 7 (by decide) k_X6_clauseHere_fieldLink_57 rfl rfl rfl rfl (Nat.le_of_ble_eq_true rfl) dX6_clauseHere_63 (fun H locs hn hq hS => ?_)
        have hZ := hZ.put (hAZ _ (.inl rfl)) hq
        have f_s : PAt G M x (nI an) (nI en) (nI sp) true (nI 0) sv H := f_s.rest hN hn hq
        have hE9 : r_clause an en P sp wr sv = (sp, true, sv) := (by (try unfold r_clause); (repeat rw [if_neg h_1]); (repeat rw [if_neg h_2]); (repeat rw [if_neg h_3]); first | done | rfl)
        exact wr_vret hx hb hr hlocks dX6_clauseHere_66 hS (by rw [hE9]; exact f_s)
theorem c2_X6_clauseHere (l : Launch) (G : GG) (Z : AM) (M : Nat → Nat) (x : MT) (an en sp : Nat) (wr : Bool) (op : Nat) (sv : Nat → Int32)  (hN : mN M) (hAZ : ∀ q : Nat, m01 M q → Z.1 q) (hen : en ≤ 120) (han : an < 8) (hg : gd an en 0 sp sv) (P : PF6) (hP : cRm l G Z M x an en yX6_some wsX6_some { frames := 27, cells := 0, slots := 0, locals := 980 } 0 P) (hPo : pOK an en P) (sp9 : Nat) (wr9 : Bool) (sv9 : Nat → Int32) (hy9 : r_clause an en P sp wr sv = (sp9, wr9, sv9)) : Met l yX6_clauseHere wsX6_clauseHere { frames := 29, cells := 0, slots := 0, locals := 1021 } (aP G Z [.ref (M 0)] (fun H => PAt G M x (nI an) (nI en) (nI sp) wr (nI 0) sv H)) (wrQ none (fun H => PAt G M x (nI an) (nI en) (nI sp9) wr9 (nI 0) sv9 H) (m01 M)) 0 0 (m01 M) := by
  have h9 := c_X6_clauseHere l G Z M x an en sp wr op sv hN hAZ hen han hg P hP hPo
  rw [hy9] at h9
  exact h9

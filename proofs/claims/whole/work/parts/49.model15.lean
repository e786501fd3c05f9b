theorem op5 {op : Nat} (h : op < 5) : ¬ nI op = 5 := fun e => by
  have h1 : (nI op).toInt = op := Int32.toInt_ofNat_of_lt (by omega)
  rw [e] at h1
  have : (5 : Int32).toInt = 5 := rfl
  omega
theorem k_X6_factor_fieldLink_81 : Cond.fieldLink RX6 81 "SameWaterModel" "open" "I" ∈ wsX6_factor := by decide +kernel
theorem k_X6_factor_fieldLink_51 : Cond.fieldLink RX6 51 "SameWaterModel" "spot" "I" ∈ wsX6_factor := by decide +kernel
theorem kd_X6_emits : yX6_emits.cls = RX6 ∧ yX6_emits.cls ≠ "java/lang/invoke/MethodHandle" ∧ yX6_emits.cls ≠ "java/lang/invoke/VarHandle" ∧ (parseMethodDescriptor yX6_emits.desc).map (fun d => d.parameters.length) = some 1 := by decide +kernel
theorem kd_X6_some : yX6_some.cls = RX6 ∧ yX6_some.cls ≠ "java/lang/invoke/MethodHandle" ∧ yX6_some.cls ≠ "java/lang/invoke/VarHandle" ∧ (parseMethodDescriptor yX6_some.desc).map (fun d => d.parameters.length) = some 0 := by decide +kernel
theorem kd_X6_among : yX6_among.cls = RX6 ∧ yX6_among.cls ≠ "java/lang/invoke/MethodHandle" ∧ yX6_among.cls ≠ "java/lang/invoke/VarHandle" ∧ (parseMethodDescriptor yX6_among.desc).map (fun d => d.parameters.length) = some 1 := by decide +kernel
theorem kd_X6_figures : yX6_figures.cls = RX6 ∧ yX6_figures.cls ≠ "java/lang/invoke/MethodHandle" ∧ yX6_figures.cls ≠ "java/lang/invoke/VarHandle" ∧ (parseMethodDescriptor yX6_figures.desc).map (fun d => d.parameters.length) = some 0 := by decide +kernel
def r_factorZ (an en : Nat) (sp : Nat) (wr : Bool) (sv : Nat → Int32) : Nat × Bool × (Nat → Int32) := if wr = true then (sp, wr, sv) else if (r_here en sp sv) = 33 then (sp, true, sv) else if (r_here en sp sv) = 40 then (sp, true, sv) else (match r_among an en 13 sp sv with | (v_0, sp_0) => if v_0 = (-1) then (sp_0, true, sv) else (match r_among an en 14 sp_0 sv with | (v_1, sp_1) => if v_1 = (-1) then (sp_1, true, sv) else (match r_figures an en sp_1 false sv with | (v_2, sp_2, wr_2) => (sp_2, wr_2, (r_emits an en ((v_0 + (8 * v_1)) + (32 * v_2)) wr_2 sv)))))
set_option maxHeartbeats 1000000 in
set_option maxRecDepth 100000 in
theorem c_X6_factor_z (l : Launch) (G : GG) (Z : AM) (M : Nat → Nat) (x : MT) (an en sp : Nat) (wr : Bool) (op : Nat) (sv : Nat → Int32)  (hN : mN M) (hAZ : ∀ q : Nat, m01 M q → Z.1 q) (hen : en ≤ 120) (han : an < 8) (hg : gd an en 0 sp sv) (hop : op = 5) : Met l yX6_factor wsX6_factor { frames := 10 + 3 * 0, cells := 0, slots := 0, locals := 300 + 120 * 0 } (aP G Z [.ref (M 0)] (fun H => PAt G M x (nI an) (nI en) (nI sp) wr (nI op) sv H)) (wrQ none (fun H => PAt G M x (nI an) (nI en) (nI ((r_factorZ an en sp wr sv).1)) ((r_factorZ an en sp wr sv).2.1) (nI op) ((r_factorZ an en sp wr sv).2.2) H) (m01 M)) 0 0 (m01 M) := by
  refine Met.ofW (cc := cX6_factor) (maxL := 5) (ret := none) (by decide) rfl ?_
  intro p e s m args below meth c s₁ Bd hml hv
  obtain ⟨rfl, hK, hZ, hB⟩ := hv
  have hx := Bd.exec
  have hb := Bd.bytes
  have hr := Bd.returns
  have hts := atoms_spec (ws := wsX6_factor) Bd.pre
  have hown : s.vm.findClass RX6 = some m.cls := findClass_of_methodNamed Bd.named
  have hlocks := Bd.notSynchronized
  have hC : CallFix p m c cX6_factor 5 s _ wsX6_factor RX6 := ⟨hx, hb, hml, hown, hts⟩
  have hl := lv_entry ([.ref (M 0)]) (n := 5) (Nat.le_of_ble_eq_true rfl)
  rw [lg_entry_eq]
  generalize (lg_sl ([.ref (M 0)]) ++ List.replicate (5 - (lg_sl ([.ref (M 0)])).length) Slot.unset).toArray = ls at hl ⊢
  have hl : lv_has ls 5 [(0, .ref (M 0))] := hl
  have hS : wS (m01 M) s.heap s.heap [] := wS.rf
  have f_s := hB
  have hsp : sp ≤ en := hg.1
  refine lv_aload_n hx hb dX6_factor_0 rfl (lv_at hl 0 rfl) ?_
  refine r_get (C := RX6) (T := TX6) (N := 18) hx hb hts i_X6_factor_X6 hown hK f_s.1 rfl 7 (by decide) k_X6_factor_fieldLink_57 rfl rfl dX6_factor_1 ?_
  refine bz_eq (tgt := 8) hx hb dX6_factor_4 (by decide) (fun h_1 => ?_) (fun h_1 => ?_)
  · have h_1 : ¬ (wr = true) := h_1
    refine lv_aload_n hx hb dX6_factor_8 rfl (lv_at hl 0 rfl) ?_
    refine ro_call (va_runV (As := []) (rest := []) hC (c_X6_here l G M x an en sp wr op sv hen (by omega)) (cwV 0 hts gX6_factor_X6_here rfl rfl rfl kd_X6_here ⟨(show 0 + 1 ≤ 10 + 3 * 0 by omega), (show 8 + (1 + 11) + (0) ≤ 300 + 120 * 0 by omega)⟩) (ro_preV hK f_s.1 rfl f_s) rfl rfl hl.1 rfl (lv_room (Nat.le_of_ble_eq_true rfl)) dX6_factor_9 ⟨Nat.zero_le _, Nat.zero_le _⟩) ?_
    refine lv_istore_n (lv' := [(1, .int (r_here en sp sv)), (0, .ref (M 0))]) hx hb dX6_factor_12 rfl hl (by decide) rfl (fun ls hl => ?_)
    refine lv_iload_n hx hb dX6_factor_13 rfl (lv_at hl 0 rfl) ?_
    refine lv_bipush (v := 33) hx hb dX6_factor_14 (by decide +kernel) ?_
    refine lv_icmp_eq (tgt := 25) hx hb dX6_factor_16 (by decide) (fun h_2 => ?_) (fun h_2 => ?_)
    · have h_2 : (r_here en sp sv) = 33 := h_2
      refine lv_aload_n hx hb dX6_factor_25 rfl (lv_at hl 1 rfl) ?_
      refine lv_aload_n hx hb dX6_factor_26 rfl (lv_at hl 1 rfl) ?_
      refine r_get (C := RX6) (T := TX6) (N := 18) hx hb hts i_X6_factor_X6 hown hK f_s.1 rfl 8 (by decide) k_X6_factor_fieldLink_81 rfl rfl dX6_factor_27 ?_
      refine lv_iconst (v := 5) hx hb dX6_factor_30 (by decide) ?_
      refine lv_icmp_ne (tgt := 38) hx hb dX6_factor_31 (by decide) (fun h_3 => ?_) (fun h_3 => ?_)
      · exact absurd (by rw [hop]; decide) h_3
      · have h_3 : (nI op) = 5 := h_3
        refine lv_iconst (v := 1) hx hb dX6_factor_34 (by decide) ?_
        refine lv_goto (tgt := 39) hx hb dX6_factor_35 (by decide) ?_
        refine w_put (C := RX6) (T := TX6) (N := 18) hx hb hts i_X6_factor_X6 tyX6 tyX6_ok nmX6 hown hK f_s.1 hS (.inl rfl) rfl 7 (by decide) k_X6_factor_fieldLink_57 rfl rfl rfl rfl (Nat.le_of_ble_eq_true rfl) dX6_factor_39 (fun H locs hn hq hS => ?_)
        have hZ := hZ.put (hAZ _ (.inl rfl)) hq
        have f_s : PAt G M x (nI an) (nI en) (nI sp) true (nI op) sv H := f_s.rest hN hn hq
        refine lv_aload_n hx hb dX6_factor_42 rfl (lv_at hl 1 rfl) ?_
        refine lv_dup hx hb dX6_factor_43 rfl ?_
        refine r_get (C := RX6) (T := TX6) (N := 18) hx hb hts i_X6_factor_X6 hown hK f_s.1 rfl 8 (by decide) k_X6_factor_fieldLink_81 rfl rfl dX6_factor_44 ?_
        refine lv_iconst (v := 1) hx hb dX6_factor_47 (by decide) ?_
        refine lv_iadd hx hb dX6_factor_48 ?_
        refine w_put (C := RX6) (T := TX6) (N := 18) hx hb hts i_X6_factor_X6 tyX6 tyX6_ok nmX6 hown hK f_s.1 hS (.inl rfl) rfl 8 (by decide) k_X6_factor_fieldLink_81 rfl rfl rfl rfl (Nat.le_of_ble_eq_true rfl) dX6_factor_49 (fun H locs hn hq hS => ?_)
        have hZ := hZ.put (hAZ _ (.inl rfl)) hq
        rw [← nI_succ] at hn
        have f_s : PAt G M x (nI an) (nI en) (nI sp) true (nI (op + 1)) sv H := f_s.rest hN hn hq
        refine lv_aload_n hx hb dX6_factor_52 rfl (lv_at hl 1 rfl) ?_
        refine lv_dup hx hb dX6_factor_53 rfl ?_
        refine r_get (C := RX6) (T := TX6) (N := 18) hx hb hts i_X6_factor_X6 hown hK f_s.1 rfl 5 (by decide) k_X6_factor_fieldLink_51 rfl rfl dX6_factor_54 ?_
        refine lv_aload_n hx hb dX6_factor_57 rfl (lv_at hl 1 rfl) ?_
        refine r_get (C := RX6) (T := TX6) (N := 18) hx hb hts i_X6_factor_X6 hown hK f_s.1 rfl 7 (by decide) k_X6_factor_fieldLink_57 rfl rfl dX6_factor_58 ?_
        refine bz_eq (tgt := 68) hx hb dX6_factor_61 (by decide) (fun h_4 => ?_) (fun h_4 => ?_)
        · exact absurd rfl h_4
        · have h_4 : true = true := h_4
          refine lv_iconst (v := 0) hx hb dX6_factor_64 (by decide) ?_
          refine lv_goto (tgt := 69) hx hb dX6_factor_65 (by decide) ?_
          refine lv_iadd hx hb dX6_factor_69 ?_
          refine w_put (C := RX6) (T := TX6) (N := 18) hx hb hts i_X6_factor_X6 tyX6 tyX6_ok nmX6 hown hK f_s.1 hS (.inl rfl) rfl 5 (by decide) k_X6_factor_fieldLink_51 rfl rfl rfl rfl (Nat.le_of_ble_eq_true rfl) dX6_factor_70 (fun H locs hn hq hS => ?_)
          have hZ := hZ.put (hAZ _ (.inl rfl)) hq
          rw [Int32.add_zero] at hn
          have f_s : PAt G M x (nI an) (nI en) (nI sp) true (nI (op + 1)) sv H := f_s.rest hN hn hq
          refine lv_iload_n hx hb dX6_factor_73 rfl (lv_at hl 0 rfl) ?_
          refine lv_bipush (v := 33) hx hb dX6_factor_74 (by decide +kernel) ?_
          refine lv_icmp_ne (tgt := 91) hx hb dX6_factor_76 (by decide) (fun h_5 => ?_) (fun h_5 => ?_)
          · exact absurd h_2 h_5
          · have h_5 : (r_here en sp sv) = 33 := h_5
            refine lv_aload_n hx hb dX6_factor_79 rfl (lv_at hl 1 rfl) ?_
            refine wr_callv (va_runV (As := []) (rest := []) hC (c_X6_factor_w l G Z M x an en sp (op + 1) sv hN hAZ hen han hg) (cwV 0 hts gX6_factor_X6_factor rfl rfl rfl kd_X6_factor ⟨(show 0 + 1 ≤ 10 + 3 * 0 by omega), (show 8 + (5 + 11) + (0) ≤ 300 + 120 * 0 by omega)⟩) (a_preV hK hZ f_s.1 rfl f_s) rfl rfl hl.1 rfl (lv_room (Nat.le_of_ble_eq_true rfl)) dX6_factor_80 ⟨Nat.zero_le _, Nat.zero_le _⟩) hS (fun q h => h) (fun H locs f_n hq hS => ?_)
            have hZ := hZ.kept (fun a9 h9 => hq a9 (fun z9 => h9 (hAZ a9 ((fun q h => h) a9 z9))))
            have f_s := (f_n : PAt G M x (nI an) (nI en) (nI sp) true (nI (op + 1)) sv H)
            refine lv_aload_n hx hb dX6_factor_83 rfl (lv_at hl 1 rfl) ?_
            refine lv_iconst (v := (-1)) hx hb dX6_factor_84 (by decide) ?_
            refine wr_callv (va_runV (As := [.int (-1)]) (rest := []) hC (c_X6_emits l G M x an en sp true (op + 1) sv (-1) hN hen (by omega) han hg) (cwV 1 hts gX6_factor_X6_emits rfl rfl rfl kd_X6_emits ⟨(show 0 + 1 ≤ 10 + 3 * 0 by omega), (show 8 + (2 + 11) + (0) ≤ 300 + 120 * 0 by omega)⟩) (ro_preV hK f_s.1 rfl f_s) rfl rfl hl.1 rfl (lv_room (Nat.le_of_ble_eq_true rfl)) dX6_factor_85 ⟨Nat.zero_le _, Nat.zero_le _⟩) hS (fun q h => h) (fun H locs f_n hq hS => ?_)
            have hZ := hZ.kept (fun a9 h9 => hq a9 (fun z9 => h9 (hAZ a9 ((fun q h => h) a9 z9))))
            have f_s := (f_n : PAt G M x (nI an) (nI en) (nI sp) true (nI (op + 1)) sv H)
            refine lv_goto (tgt := 101) hx hb dX6_factor_88 (by decide) ?_
            refine lv_aload_n hx hb dX6_factor_101 rfl (lv_at hl 1 rfl) ?_
            refine lv_dup hx hb dX6_factor_102 rfl ?_
            refine r_get (C := RX6) (T := TX6) (N := 18) hx hb hts i_X6_factor_X6 hown hK f_s.1 rfl 8 (by decide) k_X6_factor_fieldLink_81 rfl rfl dX6_factor_103 ?_
            refine lv_iconst (v := 1) hx hb dX6_factor_106 (by decide) ?_
            refine lv_isub hx hb dX6_factor_107 ?_
            refine w_put (C := RX6) (T := TX6) (N := 18) hx hb hts i_X6_factor_X6 tyX6 tyX6_ok nmX6 hown hK f_s.1 hS (.inl rfl) rfl 8 (by decide) k_X6_factor_fieldLink_81 rfl rfl rfl rfl (Nat.le_of_ble_eq_true rfl) dX6_factor_108 (fun H locs hn hq hS => ?_)
            have hZ := hZ.put (hAZ _ (.inl rfl)) hq
            rw [op_down op] at hn
            have f_s : PAt G M x (nI an) (nI en) (nI sp) true (nI op) sv H := f_s.rest hN hn hq
            have hE9 : r_factorZ an en sp wr sv = (sp, true, sv) := (by (try unfold r_factorZ); (repeat rw [if_neg h_1]); (repeat rw [if_pos h_2]); (repeat rw [if_pos h_3]); (repeat rw [if_pos h_4]); (repeat rw [if_pos h_5]); first | done | rfl)
            exact wr_vret hx hb hr hlocks dX6_factor_111 hS (by rw [hE9]; exact f_s)
    · have h_2 : ¬ ((r_here en sp sv) = 33) := h_2
      refine lv_iload_n hx hb dX6_factor_19 rfl (lv_at hl 0 rfl) ?_
      refine lv_bipush (v := 40) hx hb dX6_factor_20 (by decide +kernel) ?_
      refine lv_icmp_ne (tgt := 112) hx hb dX6_factor_22 (by decide) (fun h_6 => ?_) (fun h_6 => ?_)
      · have h_6 : ¬ ((r_here en sp sv) = 40) := h_6
        refine lv_aload_n hx hb dX6_factor_112 rfl (lv_at hl 1 rfl) ?_
        refine va_ldcS hx hb hown (hZ.2.2.2.2.2 13 (by decide)) dX6_factor_113 ?_
        obtain ⟨⟨v_0, sp_0⟩, hy_0⟩ : ∃ z9, r_among an en 13 sp sv = z9 := ⟨_, rfl⟩
        refine wr_call (va_runV (As := [.ref (zK Z 13)]) (rest := []) hC (c2_X6_among l G Z M x an en sp wr op sv 13 hN hAZ hen (by omega) (by decide) v_0 sp_0 hy_0) (cwV 1 hts gX6_factor_X6_among rfl rfl rfl kd_X6_among ⟨(show 4 + 1 ≤ 10 + 3 * 0 by omega), (show 8 + (3 + 11) + (85) ≤ 300 + 120 * 0 by omega)⟩) (a_preV hK hZ f_s.1 rfl f_s) rfl rfl hl.1 rfl (lv_room (Nat.le_of_ble_eq_true rfl)) dX6_factor_115 ⟨Nat.zero_le _, Nat.zero_le _⟩) hS (fun q h => h) (fun H locs f_n hq hS => ?_)
        have hZ := hZ.kept (fun a9 h9 => hq a9 (fun z9 => h9 (hAZ a9 ((fun q h => h) a9 z9))))
        have f_s := f_n
        have hq_0 := E_among hy_0 hen (by omega)
        refine lv_istore_n (lv' := [(2, .int v_0), (1, .int (r_here en sp sv)), (0, .ref (M 0))]) hx hb dX6_factor_118 rfl hl (by decide) rfl (fun ls hl => ?_)
        refine lv_aload_n hx hb dX6_factor_119 rfl (lv_at hl 2 rfl) ?_
        refine lv_iload_n hx hb dX6_factor_120 rfl (lv_at hl 0 rfl) ?_
        refine lv_iconst (v := (-1)) hx hb dX6_factor_121 (by decide) ?_
        refine lv_icmp_ne (tgt := 129) hx hb dX6_factor_122 (by decide) (fun h_7 => ?_) (fun h_7 => ?_)
        · have h_7 : ¬ (v_0 = (-1)) := h_7
          refine lv_iconst (v := 0) hx hb dX6_factor_129 (by decide) ?_
          refine w_put (C := RX6) (T := TX6) (N := 18) hx hb hts i_X6_factor_X6 tyX6 tyX6_ok nmX6 hown hK f_s.1 hS (.inl rfl) rfl 7 (by decide) k_X6_factor_fieldLink_57 rfl rfl rfl rfl (Nat.le_of_ble_eq_true rfl) dX6_factor_130 (fun H locs hn hq hS => ?_)
          have hZ := hZ.put (hAZ _ (.inl rfl)) hq
          have f_s : PAt G M x (nI an) (nI en) (nI sp_0) false (nI op) sv H := f_s.rest hN hn hq
          refine lv_aload_n hx hb dX6_factor_133 rfl (lv_at hl 2 rfl) ?_
          refine r_get (C := RX6) (T := TX6) (N := 18) hx hb hts i_X6_factor_X6 hown hK f_s.1 rfl 7 (by decide) k_X6_factor_fieldLink_57 rfl rfl dX6_factor_134 ?_
          refine bz_eq (tgt := 144) hx hb dX6_factor_137 (by decide) (fun h_8 => ?_) (fun h_8 => ?_)
          · have h_8 : ¬ (false = true) := h_8
            refine lv_aload_n hx hb dX6_factor_144 rfl (lv_at hl 2 rfl) ?_
            refine va_ldcS hx hb hown (hZ.2.2.2.2.2 14 (by decide)) dX6_factor_145 ?_
            obtain ⟨⟨v_1, sp_1⟩, hy_1⟩ : ∃ z9, r_among an en 14 sp_0 sv = z9 := ⟨_, rfl⟩
            refine wr_call (va_runV (As := [.ref (zK Z 14)]) (rest := []) hC (c2_X6_among l G Z M x an en sp_0 false op sv 14 hN hAZ hen (by omega) (by decide) v_1 sp_1 hy_1) (cwV 1 hts gX6_factor_X6_among rfl rfl rfl kd_X6_among ⟨(show 4 + 1 ≤ 10 + 3 * 0 by omega), (show 8 + (3 + 11) + (85) ≤ 300 + 120 * 0 by omega)⟩) (a_preV hK hZ f_s.1 rfl f_s) rfl rfl hl.1 rfl (lv_room (Nat.le_of_ble_eq_true rfl)) dX6_factor_147 ⟨Nat.zero_le _, Nat.zero_le _⟩) hS (fun q h => h) (fun H locs f_n hq hS => ?_)
            have hZ := hZ.kept (fun a9 h9 => hq a9 (fun z9 => h9 (hAZ a9 ((fun q h => h) a9 z9))))
            have f_s := f_n
            have hq_1 := E_among hy_1 hen (by omega)
            refine lv_istore_n (lv' := [(3, .int v_1), (2, .int v_0), (1, .int (r_here en sp sv)), (0, .ref (M 0))]) hx hb dX6_factor_150 rfl hl (by decide) rfl (fun ls hl => ?_)
            refine lv_aload_n hx hb dX6_factor_151 rfl (lv_at hl 3 rfl) ?_
            refine lv_aload_n hx hb dX6_factor_152 rfl (lv_at hl 3 rfl) ?_
            refine r_get (C := RX6) (T := TX6) (N := 18) hx hb hts i_X6_factor_X6 hown hK f_s.1 rfl 7 (by decide) k_X6_factor_fieldLink_57 rfl rfl dX6_factor_153 ?_
            refine bz_ne (tgt := 164) hx hb dX6_factor_156 (by decide) (fun h_9 => ?_) (fun h_9 => ?_)
            · exact absurd h_9 (by decide)
            · have h_9 : ¬ (false = true) := h_9
              refine lv_iload_n hx hb dX6_factor_159 rfl (lv_at hl 0 rfl) ?_
              refine lv_iconst (v := (-1)) hx hb dX6_factor_160 (by decide) ?_
              refine lv_icmp_ne (tgt := 168) hx hb dX6_factor_161 (by decide) (fun h_10 => ?_) (fun h_10 => ?_)
              · have h_10 : ¬ (v_1 = (-1)) := h_10
                refine lv_iconst (v := 0) hx hb dX6_factor_168 (by decide) ?_
                refine w_put (C := RX6) (T := TX6) (N := 18) hx hb hts i_X6_factor_X6 tyX6 tyX6_ok nmX6 hown hK f_s.1 hS (.inl rfl) rfl 7 (by decide) k_X6_factor_fieldLink_57 rfl rfl rfl rfl (Nat.le_of_ble_eq_true rfl) dX6_factor_169 (fun H locs hn hq hS => ?_)
                have hZ := hZ.put (hAZ _ (.inl rfl)) hq
                have f_s : PAt G M x (nI an) (nI en) (nI sp_1) false (nI op) sv H := f_s.rest hN hn hq
                refine lv_aload_n hx hb dX6_factor_172 rfl (lv_at hl 3 rfl) ?_
                obtain ⟨⟨v_2, sp_2, wr_2⟩, hy_2⟩ : ∃ z9, r_figures an en sp_1 false sv = z9 := ⟨_, rfl⟩
                refine wr_call (va_runV (As := []) (rest := []) hC (c2_X6_figures l G M x an en sp_1 false op sv hN hen (by omega) v_2 sp_2 wr_2 hy_2) (cwV 0 hts gX6_factor_X6_figures rfl rfl rfl kd_X6_figures ⟨(show 1 + 1 ≤ 10 + 3 * 0 by omega), (show 8 + (3 + 11) + (22) ≤ 300 + 120 * 0 by omega)⟩) (ro_preV hK f_s.1 rfl f_s) rfl rfl hl.1 rfl (lv_room (Nat.le_of_ble_eq_true rfl)) dX6_factor_173 ⟨Nat.zero_le _, Nat.zero_le _⟩) hS (fun q h => h) (fun H locs f_n hq hS => ?_)
                have hZ := hZ.kept (fun a9 h9 => hq a9 (fun z9 => h9 (hAZ a9 ((fun q h => h) a9 z9))))
                have f_s := f_n
                have hq_2 := E_figures hy_2 hen (by omega)
                refine lv_istore (lv' := [(4, .int v_2), (3, .int v_1), (2, .int v_0), (1, .int (r_here en sp sv)), (0, .ref (M 0))]) hx hb dX6_factor_176 hl (by decide) rfl (fun ls hl => ?_)
                refine lv_aload_n hx hb dX6_factor_178 rfl (lv_at hl 4 rfl) ?_
                refine lv_iload_n hx hb dX6_factor_179 rfl (lv_at hl 2 rfl) ?_
                refine lv_bipush (v := 8) hx hb dX6_factor_180 (by decide +kernel) ?_
                refine lv_iload_n hx hb dX6_factor_182 rfl (lv_at hl 1 rfl) ?_
                refine lv_imul hx hb dX6_factor_183 ?_
                refine lv_iadd hx hb dX6_factor_184 ?_
                refine lv_bipush (v := 32) hx hb dX6_factor_185 (by decide +kernel) ?_
                refine lv_iload hx hb dX6_factor_187 (lv_at hl 0 rfl) ?_
                refine lv_imul hx hb dX6_factor_189 ?_
                refine lv_iadd hx hb dX6_factor_190 ?_
                refine wr_callv (va_runV (As := [.int ((v_0 + (8 * v_1)) + (32 * v_2))]) (rest := []) hC (c_X6_emits l G M x an en sp_2 wr_2 op sv ((v_0 + (8 * v_1)) + (32 * v_2)) hN hen (by omega) han (gd.up (sp2 := sp_2) (gd.up (sp2 := sp_1) (gd.up (sp2 := sp_0) hg (by omega) (by omega)) (by omega) (by omega)) (by omega) (by omega))) (cwV 1 hts gX6_factor_X6_emits rfl rfl rfl kd_X6_emits ⟨(show 0 + 1 ≤ 10 + 3 * 0 by omega), (show 8 + (2 + 11) + (0) ≤ 300 + 120 * 0 by omega)⟩) (ro_preV hK f_s.1 rfl f_s) rfl rfl hl.1 rfl (lv_room (Nat.le_of_ble_eq_true rfl)) dX6_factor_191 ⟨Nat.zero_le _, Nat.zero_le _⟩) hS (fun q h => h) (fun H locs f_n hq hS => ?_)
                have hZ := hZ.kept (fun a9 h9 => hq a9 (fun z9 => h9 (hAZ a9 ((fun q h => h) a9 z9))))
                have f_s := f_n
                have hE9 : r_factorZ an en sp wr sv = (sp_2, wr_2, (r_emits an en ((v_0 + (8 * v_1)) + (32 * v_2)) wr_2 sv)) := (by (try unfold r_factorZ); (repeat rw [if_neg h_1]); (repeat rw [if_neg h_2]); (repeat rw [if_neg h_6]); (try rw [hy_0]); (try dsimp only); (repeat rw [if_neg h_7]); (repeat rw [if_neg h_8]); (try rw [hy_1]); (try dsimp only); (repeat rw [if_neg h_9]); (repeat rw [if_neg h_10]); (try rw [hy_2]); (try dsimp only); first | done | rfl)
                exact wr_vret hx hb hr hlocks dX6_factor_194 hS (by rw [hE9]; exact f_s)
              · have h_10 : v_1 = (-1) := h_10
                refine lv_iconst (v := 1) hx hb dX6_factor_164 (by decide) ?_
                refine lv_goto (tgt := 169) hx hb dX6_factor_165 (by decide) ?_
                refine w_put (C := RX6) (T := TX6) (N := 18) hx hb hts i_X6_factor_X6 tyX6 tyX6_ok nmX6 hown hK f_s.1 hS (.inl rfl) rfl 7 (by decide) k_X6_factor_fieldLink_57 rfl rfl rfl rfl (Nat.le_of_ble_eq_true rfl) dX6_factor_169 (fun H locs hn hq hS => ?_)
                have hZ := hZ.put (hAZ _ (.inl rfl)) hq
                have f_s : PAt G M x (nI an) (nI en) (nI sp_1) true (nI op) sv H := f_s.rest hN hn hq
                refine lv_aload_n hx hb dX6_factor_172 rfl (lv_at hl 3 rfl) ?_
                refine wr_call (va_runV (As := []) (rest := []) hC (c2_X6_figures l G M x an en sp_1 true op sv hN hen (by omega) 0 sp_1 true (fig_w an en sp_1 sv)) (cwV 0 hts gX6_factor_X6_figures rfl rfl rfl kd_X6_figures ⟨(show 1 + 1 ≤ 10 + 3 * 0 by omega), (show 8 + (3 + 11) + (22) ≤ 300 + 120 * 0 by omega)⟩) (ro_preV hK f_s.1 rfl f_s) rfl rfl hl.1 rfl (lv_room (Nat.le_of_ble_eq_true rfl)) dX6_factor_173 ⟨Nat.zero_le _, Nat.zero_le _⟩) hS (fun q h => h) (fun H locs f_n hq hS => ?_)
                have hZ := hZ.kept (fun a9 h9 => hq a9 (fun z9 => h9 (hAZ a9 ((fun q h => h) a9 z9))))
                have f_s := f_n
                refine lv_istore (lv' := [(4, .int 0), (3, .int v_1), (2, .int v_0), (1, .int (r_here en sp sv)), (0, .ref (M 0))]) hx hb dX6_factor_176 hl (by decide) rfl (fun ls hl => ?_)
                refine lv_aload_n hx hb dX6_factor_178 rfl (lv_at hl 4 rfl) ?_
                refine lv_iload_n hx hb dX6_factor_179 rfl (lv_at hl 2 rfl) ?_
                refine lv_bipush (v := 8) hx hb dX6_factor_180 (by decide +kernel) ?_
                refine lv_iload_n hx hb dX6_factor_182 rfl (lv_at hl 1 rfl) ?_
                refine lv_imul hx hb dX6_factor_183 ?_
                refine lv_iadd hx hb dX6_factor_184 ?_
                refine lv_bipush (v := 32) hx hb dX6_factor_185 (by decide +kernel) ?_
                refine lv_iload hx hb dX6_factor_187 (lv_at hl 0 rfl) ?_
                refine lv_imul hx hb dX6_factor_189 ?_
                refine lv_iadd hx hb dX6_factor_190 ?_
                refine wr_callv (va_runV (As := [.int ((v_0 + (8 * v_1)) + (32 * 0))]) (rest := []) hC (c_X6_emits l G M x an en sp_1 true op sv ((v_0 + (8 * v_1)) + (32 * 0)) hN hen (by omega) han (gd.up (sp2 := sp_1) (gd.up (sp2 := sp_0) hg (by omega) (by omega)) (by omega) (by omega))) (cwV 1 hts gX6_factor_X6_emits rfl rfl rfl kd_X6_emits ⟨(show 0 + 1 ≤ 10 + 3 * 0 by omega), (show 8 + (2 + 11) + (0) ≤ 300 + 120 * 0 by omega)⟩) (ro_preV hK f_s.1 rfl f_s) rfl rfl hl.1 rfl (lv_room (Nat.le_of_ble_eq_true rfl)) dX6_factor_191 ⟨Nat.zero_le _, Nat.zero_le _⟩) hS (fun q h => h) (fun H locs f_n hq hS => ?_)
                have hZ := hZ.kept (fun a9 h9 => hq a9 (fun z9 => h9 (hAZ a9 ((fun q h => h) a9 z9))))
                have f_s := (f_n : PAt G M x (nI an) (nI en) (nI sp_1) true (nI op) sv H)
                have hE9 : r_factorZ an en sp wr sv = (sp_1, true, sv) := (by (try unfold r_factorZ); (repeat rw [if_neg h_1]); (repeat rw [if_neg h_2]); (repeat rw [if_neg h_6]); (try rw [hy_0]); (try dsimp only); (repeat rw [if_neg h_7]); (repeat rw [if_neg h_8]); (try rw [hy_1]); (try dsimp only); (repeat rw [if_neg h_9]); (repeat rw [if_pos h_10]); first | done | rfl)
                exact wr_vret hx hb hr hlocks dX6_factor_194 hS (by rw [hE9]; exact f_s)
          · exact absurd h_8 (by decide)
        · have h_7 : v_0 = (-1) := h_7
          refine lv_iconst (v := 1) hx hb dX6_factor_125 (by decide) ?_
          refine lv_goto (tgt := 130) hx hb dX6_factor_126 (by decide) ?_
          refine w_put (C := RX6) (T := TX6) (N := 18) hx hb hts i_X6_factor_X6 tyX6 tyX6_ok nmX6 hown hK f_s.1 hS (.inl rfl) rfl 7 (by decide) k_X6_factor_fieldLink_57 rfl rfl rfl rfl (Nat.le_of_ble_eq_true rfl) dX6_factor_130 (fun H locs hn hq hS => ?_)
          have hZ := hZ.put (hAZ _ (.inl rfl)) hq
          have f_s : PAt G M x (nI an) (nI en) (nI sp_0) true (nI op) sv H := f_s.rest hN hn hq
          refine lv_aload_n hx hb dX6_factor_133 rfl (lv_at hl 2 rfl) ?_
          refine r_get (C := RX6) (T := TX6) (N := 18) hx hb hts i_X6_factor_X6 hown hK f_s.1 rfl 7 (by decide) k_X6_factor_fieldLink_57 rfl rfl dX6_factor_134 ?_
          refine bz_eq (tgt := 144) hx hb dX6_factor_137 (by decide) (fun h_11 => ?_) (fun h_11 => ?_)
          · exact absurd rfl h_11
          · have h_11 : true = true := h_11
            refine lv_iconst (v := 0) hx hb dX6_factor_140 (by decide) ?_
            refine lv_goto (tgt := 150) hx hb dX6_factor_141 (by decide) ?_
            refine lv_istore_n (lv' := [(3, .int 0), (2, .int v_0), (1, .int (r_here en sp sv)), (0, .ref (M 0))]) hx hb dX6_factor_150 rfl hl (by decide) rfl (fun ls hl => ?_)
            refine lv_aload_n hx hb dX6_factor_151 rfl (lv_at hl 3 rfl) ?_
            refine lv_aload_n hx hb dX6_factor_152 rfl (lv_at hl 3 rfl) ?_
            refine r_get (C := RX6) (T := TX6) (N := 18) hx hb hts i_X6_factor_X6 hown hK f_s.1 rfl 7 (by decide) k_X6_factor_fieldLink_57 rfl rfl dX6_factor_153 ?_
            refine bz_ne (tgt := 164) hx hb dX6_factor_156 (by decide) (fun h_12 => ?_) (fun h_12 => ?_)
            · have h_12 : true = true := h_12
              refine lv_iconst (v := 1) hx hb dX6_factor_164 (by decide) ?_
              refine lv_goto (tgt := 169) hx hb dX6_factor_165 (by decide) ?_
              refine w_put (C := RX6) (T := TX6) (N := 18) hx hb hts i_X6_factor_X6 tyX6 tyX6_ok nmX6 hown hK f_s.1 hS (.inl rfl) rfl 7 (by decide) k_X6_factor_fieldLink_57 rfl rfl rfl rfl (Nat.le_of_ble_eq_true rfl) dX6_factor_169 (fun H locs hn hq hS => ?_)
              have hZ := hZ.put (hAZ _ (.inl rfl)) hq
              have f_s : PAt G M x (nI an) (nI en) (nI sp_0) true (nI op) sv H := f_s.rest hN hn hq
              refine lv_aload_n hx hb dX6_factor_172 rfl (lv_at hl 3 rfl) ?_
              refine wr_call (va_runV (As := []) (rest := []) hC (c2_X6_figures l G M x an en sp_0 true op sv hN hen (by omega) 0 sp_0 true (fig_w an en sp_0 sv)) (cwV 0 hts gX6_factor_X6_figures rfl rfl rfl kd_X6_figures ⟨(show 1 + 1 ≤ 10 + 3 * 0 by omega), (show 8 + (3 + 11) + (22) ≤ 300 + 120 * 0 by omega)⟩) (ro_preV hK f_s.1 rfl f_s) rfl rfl hl.1 rfl (lv_room (Nat.le_of_ble_eq_true rfl)) dX6_factor_173 ⟨Nat.zero_le _, Nat.zero_le _⟩) hS (fun q h => h) (fun H locs f_n hq hS => ?_)
              have hZ := hZ.kept (fun a9 h9 => hq a9 (fun z9 => h9 (hAZ a9 ((fun q h => h) a9 z9))))
              have f_s := f_n
              refine lv_istore (lv' := [(4, .int 0), (3, .int 0), (2, .int v_0), (1, .int (r_here en sp sv)), (0, .ref (M 0))]) hx hb dX6_factor_176 hl (by decide) rfl (fun ls hl => ?_)
              refine lv_aload_n hx hb dX6_factor_178 rfl (lv_at hl 4 rfl) ?_
              refine lv_iload_n hx hb dX6_factor_179 rfl (lv_at hl 2 rfl) ?_
              refine lv_bipush (v := 8) hx hb dX6_factor_180 (by decide +kernel) ?_
              refine lv_iload_n hx hb dX6_factor_182 rfl (lv_at hl 1 rfl) ?_
              refine lv_imul hx hb dX6_factor_183 ?_
              refine lv_iadd hx hb dX6_factor_184 ?_
              refine lv_bipush (v := 32) hx hb dX6_factor_185 (by decide +kernel) ?_
              refine lv_iload hx hb dX6_factor_187 (lv_at hl 0 rfl) ?_
              refine lv_imul hx hb dX6_factor_189 ?_
              refine lv_iadd hx hb dX6_factor_190 ?_
              refine wr_callv (va_runV (As := [.int ((v_0 + (8 * 0)) + (32 * 0))]) (rest := []) hC (c_X6_emits l G M x an en sp_0 true op sv ((v_0 + (8 * 0)) + (32 * 0)) hN hen (by omega) han (gd.up (sp2 := sp_0) hg (by omega) (by omega))) (cwV 1 hts gX6_factor_X6_emits rfl rfl rfl kd_X6_emits ⟨(show 0 + 1 ≤ 10 + 3 * 0 by omega), (show 8 + (2 + 11) + (0) ≤ 300 + 120 * 0 by omega)⟩) (ro_preV hK f_s.1 rfl f_s) rfl rfl hl.1 rfl (lv_room (Nat.le_of_ble_eq_true rfl)) dX6_factor_191 ⟨Nat.zero_le _, Nat.zero_le _⟩) hS (fun q h => h) (fun H locs f_n hq hS => ?_)
              have hZ := hZ.kept (fun a9 h9 => hq a9 (fun z9 => h9 (hAZ a9 ((fun q h => h) a9 z9))))
              have f_s := (f_n : PAt G M x (nI an) (nI en) (nI sp_0) true (nI op) sv H)
              have hE9 : r_factorZ an en sp wr sv = (sp_0, true, sv) := (by (try unfold r_factorZ); (repeat rw [if_neg h_1]); (repeat rw [if_neg h_2]); (repeat rw [if_neg h_6]); (try rw [hy_0]); (try dsimp only); (repeat rw [if_pos h_7]); (repeat rw [if_pos h_11]); (repeat rw [if_pos h_12]); first | done | rfl)
              exact wr_vret hx hb hr hlocks dX6_factor_194 hS (by rw [hE9]; exact f_s)
            · exact absurd rfl h_12
      · have h_6 : (r_here en sp sv) = 40 := h_6
        refine lv_aload_n hx hb dX6_factor_25 rfl (lv_at hl 1 rfl) ?_
        refine lv_aload_n hx hb dX6_factor_26 rfl (lv_at hl 1 rfl) ?_
        refine r_get (C := RX6) (T := TX6) (N := 18) hx hb hts i_X6_factor_X6 hown hK f_s.1 rfl 8 (by decide) k_X6_factor_fieldLink_81 rfl rfl dX6_factor_27 ?_
        refine lv_iconst (v := 5) hx hb dX6_factor_30 (by decide) ?_
        refine lv_icmp_ne (tgt := 38) hx hb dX6_factor_31 (by decide) (fun h_13 => ?_) (fun h_13 => ?_)
        · exact absurd (by rw [hop]; decide) h_13
        · have h_13 : (nI op) = 5 := h_13
          refine lv_iconst (v := 1) hx hb dX6_factor_34 (by decide) ?_
          refine lv_goto (tgt := 39) hx hb dX6_factor_35 (by decide) ?_
          refine w_put (C := RX6) (T := TX6) (N := 18) hx hb hts i_X6_factor_X6 tyX6 tyX6_ok nmX6 hown hK f_s.1 hS (.inl rfl) rfl 7 (by decide) k_X6_factor_fieldLink_57 rfl rfl rfl rfl (Nat.le_of_ble_eq_true rfl) dX6_factor_39 (fun H locs hn hq hS => ?_)
          have hZ := hZ.put (hAZ _ (.inl rfl)) hq
          have f_s : PAt G M x (nI an) (nI en) (nI sp) true (nI op) sv H := f_s.rest hN hn hq
          refine lv_aload_n hx hb dX6_factor_42 rfl (lv_at hl 1 rfl) ?_
          refine lv_dup hx hb dX6_factor_43 rfl ?_
          refine r_get (C := RX6) (T := TX6) (N := 18) hx hb hts i_X6_factor_X6 hown hK f_s.1 rfl 8 (by decide) k_X6_factor_fieldLink_81 rfl rfl dX6_factor_44 ?_
          refine lv_iconst (v := 1) hx hb dX6_factor_47 (by decide) ?_
          refine lv_iadd hx hb dX6_factor_48 ?_
          refine w_put (C := RX6) (T := TX6) (N := 18) hx hb hts i_X6_factor_X6 tyX6 tyX6_ok nmX6 hown hK f_s.1 hS (.inl rfl) rfl 8 (by decide) k_X6_factor_fieldLink_81 rfl rfl rfl rfl (Nat.le_of_ble_eq_true rfl) dX6_factor_49 (fun H locs hn hq hS => ?_)
          have hZ := hZ.put (hAZ _ (.inl rfl)) hq
          rw [← nI_succ] at hn
          have f_s : PAt G M x (nI an) (nI en) (nI sp) true (nI (op + 1)) sv H := f_s.rest hN hn hq
          refine lv_aload_n hx hb dX6_factor_52 rfl (lv_at hl 1 rfl) ?_
          refine lv_dup hx hb dX6_factor_53 rfl ?_
          refine r_get (C := RX6) (T := TX6) (N := 18) hx hb hts i_X6_factor_X6 hown hK f_s.1 rfl 5 (by decide) k_X6_factor_fieldLink_51 rfl rfl dX6_factor_54 ?_
          refine lv_aload_n hx hb dX6_factor_57 rfl (lv_at hl 1 rfl) ?_
          refine r_get (C := RX6) (T := TX6) (N := 18) hx hb hts i_X6_factor_X6 hown hK f_s.1 rfl 7 (by decide) k_X6_factor_fieldLink_57 rfl rfl dX6_factor_58 ?_
          refine bz_eq (tgt := 68) hx hb dX6_factor_61 (by decide) (fun h_14 => ?_) (fun h_14 => ?_)
          · exact absurd rfl h_14
          · have h_14 : true = true := h_14
            refine lv_iconst (v := 0) hx hb dX6_factor_64 (by decide) ?_
            refine lv_goto (tgt := 69) hx hb dX6_factor_65 (by decide) ?_
            refine lv_iadd hx hb dX6_factor_69 ?_
            refine w_put (C := RX6) (T := TX6) (N := 18) hx hb hts i_X6_factor_X6 tyX6 tyX6_ok nmX6 hown hK f_s.1 hS (.inl rfl) rfl 5 (by decide) k_X6_factor_fieldLink_51 rfl rfl rfl rfl (Nat.le_of_ble_eq_true rfl) dX6_factor_70 (fun H locs hn hq hS => ?_)
            have hZ := hZ.put (hAZ _ (.inl rfl)) hq
            rw [Int32.add_zero] at hn
            have f_s : PAt G M x (nI an) (nI en) (nI sp) true (nI (op + 1)) sv H := f_s.rest hN hn hq
            refine lv_iload_n hx hb dX6_factor_73 rfl (lv_at hl 0 rfl) ?_
            refine lv_bipush (v := 33) hx hb dX6_factor_74 (by decide +kernel) ?_
            refine lv_icmp_ne (tgt := 91) hx hb dX6_factor_76 (by decide) (fun h_15 => ?_) (fun h_15 => ?_)
            · have h_15 : ¬ ((r_here en sp sv) = 33) := h_15
              refine lv_aload_n hx hb dX6_factor_91 rfl (lv_at hl 1 rfl) ?_
              refine wr_callv (va_runV (As := []) (rest := []) hC (c_X6_some_w l G Z M x an en sp (op + 1) sv hN hAZ hen han hg) (cwV 0 hts gX6_factor_X6_some rfl rfl rfl kd_X6_some ⟨(show 2 + 1 ≤ 10 + 3 * 0 by omega), (show 8 + (1 + 11) + (44) ≤ 300 + 120 * 0 by omega)⟩) (a_preV hK hZ f_s.1 rfl f_s) rfl rfl hl.1 rfl (lv_room (Nat.le_of_ble_eq_true rfl)) dX6_factor_92 ⟨Nat.zero_le _, Nat.zero_le _⟩) hS (fun q h => h) (fun H locs f_n hq hS => ?_)
              have hZ := hZ.kept (fun a9 h9 => hq a9 (fun z9 => h9 (hAZ a9 ((fun q h => h) a9 z9))))
              have f_s := (f_n : PAt G M x (nI an) (nI en) (nI sp) true (nI (op + 1)) sv H)
              refine lv_aload_n hx hb dX6_factor_95 rfl (lv_at hl 1 rfl) ?_
              refine lv_bipush (v := 41) hx hb dX6_factor_96 (by decide +kernel) ?_
              refine wr_callv (va_runV (As := [.int 41]) (rest := []) hC (c2_X6_must l G M x an en sp true (op + 1) sv 41 hN hen (by omega) sp true (must_w an en 41 sp sv)) (cwV 1 hts gX6_factor_X6_must rfl rfl rfl kd_X6_must ⟨(show 1 + 1 ≤ 10 + 3 * 0 by omega), (show 8 + (2 + 11) + (20) ≤ 300 + 120 * 0 by omega)⟩) (ro_preV hK f_s.1 rfl f_s) rfl rfl hl.1 rfl (lv_room (Nat.le_of_ble_eq_true rfl)) dX6_factor_98 ⟨Nat.zero_le _, Nat.zero_le _⟩) hS (fun q h => h) (fun H locs f_n hq hS => ?_)
              have hZ := hZ.kept (fun a9 h9 => hq a9 (fun z9 => h9 (hAZ a9 ((fun q h => h) a9 z9))))
              have f_s := f_n
              refine lv_aload_n hx hb dX6_factor_101 rfl (lv_at hl 1 rfl) ?_
              refine lv_dup hx hb dX6_factor_102 rfl ?_
              refine r_get (C := RX6) (T := TX6) (N := 18) hx hb hts i_X6_factor_X6 hown hK f_s.1 rfl 8 (by decide) k_X6_factor_fieldLink_81 rfl rfl dX6_factor_103 ?_
              refine lv_iconst (v := 1) hx hb dX6_factor_106 (by decide) ?_
              refine lv_isub hx hb dX6_factor_107 ?_
              refine w_put (C := RX6) (T := TX6) (N := 18) hx hb hts i_X6_factor_X6 tyX6 tyX6_ok nmX6 hown hK f_s.1 hS (.inl rfl) rfl 8 (by decide) k_X6_factor_fieldLink_81 rfl rfl rfl rfl (Nat.le_of_ble_eq_true rfl) dX6_factor_108 (fun H locs hn hq hS => ?_)
              have hZ := hZ.put (hAZ _ (.inl rfl)) hq
              rw [op_down op] at hn
              have f_s : PAt G M x (nI an) (nI en) (nI sp) true (nI op) sv H := f_s.rest hN hn hq
              have hE9 : r_factorZ an en sp wr sv = (sp, true, sv) := (by (try unfold r_factorZ); (repeat rw [if_neg h_1]); (repeat rw [if_neg h_2]); (repeat rw [if_pos h_6]); (repeat rw [if_pos h_13]); (repeat rw [if_pos h_14]); (repeat rw [if_neg h_15]); first | done | rfl)
              exact wr_vret hx hb hr hlocks dX6_factor_111 hS (by rw [hE9]; exact f_s)
            · exact absurd h_15 h_2
  · have h_1 : wr = true := h_1
    have hE9 : r_factorZ an en sp wr sv = (sp, wr, sv) := (by (try unfold r_factorZ); (repeat rw [if_pos h_1]); first | done | rfl)
    exact wr_vret hx hb hr hlocks dX6_factor_7 hS (by rw [hE9]; exact f_s)
theorem c2_X6_factor_z (l : Launch) (G : GG) (Z : AM) (M : Nat → Nat) (x : MT) (an en sp : Nat) (wr : Bool) (op : Nat) (sv : Nat → Int32)  (hN : mN M) (hAZ : ∀ q : Nat, m01 M q → Z.1 q) (hen : en ≤ 120) (han : an < 8) (hg : gd an en 0 sp sv) (hop : op = 5) (sp9 : Nat) (wr9 : Bool) (sv9 : Nat → Int32) (hy9 : r_factorZ an en sp wr sv = (sp9, wr9, sv9)) : Met l yX6_factor wsX6_factor { frames := 10 + 3 * 0, cells := 0, slots := 0, locals := 300 + 120 * 0 } (aP G Z [.ref (M 0)] (fun H => PAt G M x (nI an) (nI en) (nI sp) wr (nI op) sv H)) (wrQ none (fun H => PAt G M x (nI an) (nI en) (nI sp9) wr9 (nI op) sv9 H) (m01 M)) 0 0 (m01 M) := by
  have h9 := c_X6_factor_z l G Z M x an en sp wr op sv hN hAZ hen han hg hop
  rw [hy9] at h9
  exact h9
def r_factorS (an en : Nat) (P E : PF6) (sp : Nat) (wr : Bool) (sv : Nat → Int32) : Nat × Bool × (Nat → Int32) := if wr = true then (sp, wr, sv) else if (r_here en sp sv) = 33 then if (r_here en sp sv) = 33 then (match P (sp + 1) false sv with | (sp_0, wr_0, sv_0) => (sp_0, wr_0, (r_emits an en (-1) wr_0 sv_0))) else (match E (sp + 1) false sv with | (sp_0, wr_0, sv_0) => (match r_must an en 41 sp_0 wr_0 sv_0 with | (sp_1, wr_1) => (sp_1, wr_1, sv_0))) else if (r_here en sp sv) = 40 then if (r_here en sp sv) = 33 then (match P (sp + 1) false sv with | (sp_0, wr_0, sv_0) => (sp_0, wr_0, (r_emits an en (-1) wr_0 sv_0))) else (match E (sp + 1) false sv with | (sp_0, wr_0, sv_0) => (match r_must an en 41 sp_0 wr_0 sv_0 with | (sp_1, wr_1) => (sp_1, wr_1, sv_0))) else (match r_among an en 13 sp sv with | (v_0, sp_0) => if v_0 = (-1) then (sp_0, true, sv) else (match r_among an en 14 sp_0 sv with | (v_1, sp_1) => if v_1 = (-1) then (sp_1, true, sv) else (match r_figures an en sp_1 false sv with | (v_2, sp_2, wr_2) => (sp_2, wr_2, (r_emits an en ((v_0 + (8 * v_1)) + (32 * v_2)) wr_2 sv)))))
set_option maxHeartbeats 1000000 in
set_option maxRecDepth 100000 in
theorem c_X6_factor_s (l : Launch) (G : GG) (Z : AM) (M : Nat → Nat) (x : MT) (an en sp : Nat) (wr : Bool) (op : Nat) (sv : Nat → Int32)  (hN : mN M) (hAZ : ∀ q : Nat, m01 M q → Z.1 q) (hen : en ≤ 120) (han : an < 8) (hg : gd an en 0 sp sv) (d : Nat) (P E : PF6) (hop : op < 5) (hP : cRm l G Z M x an en yX6_factor wsX6_factor { frames := 10 + 3 * d, cells := 0, slots := 0, locals := 300 + 120 * d } (op + 1) P) (hPo : pOK an en P) (hE : cRm l G Z M x an en yX6_some wsX6_some { frames := 12 + 3 * d, cells := 0, slots := 0, locals := 380 + 120 * d } (op + 1) E) (hEo : pOK an en E) : Met l yX6_factor wsX6_factor { frames := 10 + 3 * (d + 1), cells := 0, slots := 0, locals := 300 + 120 * (d + 1) } (aP G Z [.ref (M 0)] (fun H => PAt G M x (nI an) (nI en) (nI sp) wr (nI op) sv H)) (wrQ none (fun H => PAt G M x (nI an) (nI en) (nI ((r_factorS an en P E sp wr sv).1)) ((r_factorS an en P E sp wr sv).2.1) (nI op) ((r_factorS an en P E sp wr sv).2.2) H) (m01 M)) 0 0 (m01 M) := by
  refine Met.ofW (cc := cX6_factor) (maxL := 5) (ret := none) (by decide) rfl ?_
  intro p e s m args below meth c s₁ Bd hml hv
  obtain ⟨rfl, hK, hZ, hB⟩ := hv
  have hx := Bd.exec
  have hb := Bd.bytes
  have hr := Bd.returns
  have hts := atoms_spec (ws := wsX6_factor) Bd.pre
  have hown : s.vm.findClass RX6 = some m.cls := findClass_of_methodNamed Bd.named
  have hlocks := Bd.notSynchronized
  have hC : CallFix p m c cX6_factor 5 s _ wsX6_factor RX6 := ⟨hx, hb, hml, hown, hts⟩
  have hl := lv_entry ([.ref (M 0)]) (n := 5) (Nat.le_of_ble_eq_true rfl)
  rw [lg_entry_eq]
  generalize (lg_sl ([.ref (M 0)]) ++ List.replicate (5 - (lg_sl ([.ref (M 0)])).length) Slot.unset).toArray = ls at hl ⊢
  have hl : lv_has ls 5 [(0, .ref (M 0))] := hl
  have hS : wS (m01 M) s.heap s.heap [] := wS.rf
  have f_s := hB
  have hsp : sp ≤ en := hg.1
  refine lv_aload_n hx hb dX6_factor_0 rfl (lv_at hl 0 rfl) ?_
  refine r_get (C := RX6) (T := TX6) (N := 18) hx hb hts i_X6_factor_X6 hown hK f_s.1 rfl 7 (by decide) k_X6_factor_fieldLink_57 rfl rfl dX6_factor_1 ?_
  refine bz_eq (tgt := 8) hx hb dX6_factor_4 (by decide) (fun h_1 => ?_) (fun h_1 => ?_)
  · have h_1 : ¬ (wr = true) := h_1
    refine lv_aload_n hx hb dX6_factor_8 rfl (lv_at hl 0 rfl) ?_
    refine ro_call (va_runV (As := []) (rest := []) hC (c_X6_here l G M x an en sp wr op sv hen (by omega)) (cwV 0 hts gX6_factor_X6_here rfl rfl rfl kd_X6_here ⟨(show 0 + 1 ≤ 10 + 3 * (d + 1) by omega), (show 8 + (1 + 11) + (0) ≤ 300 + 120 * (d + 1) by omega)⟩) (ro_preV hK f_s.1 rfl f_s) rfl rfl hl.1 rfl (lv_room (Nat.le_of_ble_eq_true rfl)) dX6_factor_9 ⟨Nat.zero_le _, Nat.zero_le _⟩) ?_
    refine lv_istore_n (lv' := [(1, .int (r_here en sp sv)), (0, .ref (M 0))]) hx hb dX6_factor_12 rfl hl (by decide) rfl (fun ls hl => ?_)
    refine lv_iload_n hx hb dX6_factor_13 rfl (lv_at hl 0 rfl) ?_
    refine lv_bipush (v := 33) hx hb dX6_factor_14 (by decide +kernel) ?_
    refine lv_icmp_eq (tgt := 25) hx hb dX6_factor_16 (by decide) (fun h_2 => ?_) (fun h_2 => ?_)
    · have h_2 : (r_here en sp sv) = 33 := h_2
      refine lv_aload_n hx hb dX6_factor_25 rfl (lv_at hl 1 rfl) ?_
      refine lv_aload_n hx hb dX6_factor_26 rfl (lv_at hl 1 rfl) ?_
      refine r_get (C := RX6) (T := TX6) (N := 18) hx hb hts i_X6_factor_X6 hown hK f_s.1 rfl 8 (by decide) k_X6_factor_fieldLink_81 rfl rfl dX6_factor_27 ?_
      refine lv_iconst (v := 5) hx hb dX6_factor_30 (by decide) ?_
      refine lv_icmp_ne (tgt := 38) hx hb dX6_factor_31 (by decide) (fun h_3 => ?_) (fun h_3 => ?_)
      · have h_3 : ¬ ((nI op) = 5) := h_3
        refine lv_iconst (v := 0) hx hb dX6_factor_38 (by decide) ?_
        refine w_put (C := RX6) (T := TX6) (N := 18) hx hb hts i_X6_factor_X6 tyX6 tyX6_ok nmX6 hown hK f_s.1 hS (.inl rfl) rfl 7 (by decide) k_X6_factor_fieldLink_57 rfl rfl rfl rfl (Nat.le_of_ble_eq_true rfl) dX6_factor_39 (fun H locs hn hq hS => ?_)
        have hZ := hZ.put (hAZ _ (.inl rfl)) hq
        have f_s : PAt G M x (nI an) (nI en) (nI sp) false (nI op) sv H := f_s.rest hN hn hq
        refine lv_aload_n hx hb dX6_factor_42 rfl (lv_at hl 1 rfl) ?_
        refine lv_dup hx hb dX6_factor_43 rfl ?_
        refine r_get (C := RX6) (T := TX6) (N := 18) hx hb hts i_X6_factor_X6 hown hK f_s.1 rfl 8 (by decide) k_X6_factor_fieldLink_81 rfl rfl dX6_factor_44 ?_
        refine lv_iconst (v := 1) hx hb dX6_factor_47 (by decide) ?_
        refine lv_iadd hx hb dX6_factor_48 ?_
        refine w_put (C := RX6) (T := TX6) (N := 18) hx hb hts i_X6_factor_X6 tyX6 tyX6_ok nmX6 hown hK f_s.1 hS (.inl rfl) rfl 8 (by decide) k_X6_factor_fieldLink_81 rfl rfl rfl rfl (Nat.le_of_ble_eq_true rfl) dX6_factor_49 (fun H locs hn hq hS => ?_)
        have hZ := hZ.put (hAZ _ (.inl rfl)) hq
        rw [← nI_succ] at hn
        have f_s : PAt G M x (nI an) (nI en) (nI sp) false (nI (op + 1)) sv H := f_s.rest hN hn hq
        refine lv_aload_n hx hb dX6_factor_52 rfl (lv_at hl 1 rfl) ?_
        refine lv_dup hx hb dX6_factor_53 rfl ?_
        refine r_get (C := RX6) (T := TX6) (N := 18) hx hb hts i_X6_factor_X6 hown hK f_s.1 rfl 5 (by decide) k_X6_factor_fieldLink_51 rfl rfl dX6_factor_54 ?_
        refine lv_aload_n hx hb dX6_factor_57 rfl (lv_at hl 1 rfl) ?_
        refine r_get (C := RX6) (T := TX6) (N := 18) hx hb hts i_X6_factor_X6 hown hK f_s.1 rfl 7 (by decide) k_X6_factor_fieldLink_57 rfl rfl dX6_factor_58 ?_
        refine bz_eq (tgt := 68) hx hb dX6_factor_61 (by decide) (fun h_4 => ?_) (fun h_4 => ?_)
        · have h_4 : ¬ (false = true) := h_4
          refine lv_iconst (v := 1) hx hb dX6_factor_68 (by decide) ?_
          refine lv_iadd hx hb dX6_factor_69 ?_
          refine w_put (C := RX6) (T := TX6) (N := 18) hx hb hts i_X6_factor_X6 tyX6 tyX6_ok nmX6 hown hK f_s.1 hS (.inl rfl) rfl 5 (by decide) k_X6_factor_fieldLink_51 rfl rfl rfl rfl (Nat.le_of_ble_eq_true rfl) dX6_factor_70 (fun H locs hn hq hS => ?_)
          have hZ := hZ.put (hAZ _ (.inl rfl)) hq
          have hl9 := here_eq (n := 33) h_2 (by decide) hen (by omega)
          rw [← nI_succ] at hn
          have f_s : PAt G M x (nI an) (nI en) (nI (sp + 1)) false (nI (op + 1)) sv H := f_s.rest hN hn hq
          refine lv_iload_n hx hb dX6_factor_73 rfl (lv_at hl 0 rfl) ?_
          refine lv_bipush (v := 33) hx hb dX6_factor_74 (by decide +kernel) ?_
          refine lv_icmp_ne (tgt := 91) hx hb dX6_factor_76 (by decide) (fun h_5 => ?_) (fun h_5 => ?_)
          · exact absurd h_2 h_5
          · have h_5 : (r_here en sp sv) = 33 := h_5
            refine lv_aload_n hx hb dX6_factor_79 rfl (lv_at hl 1 rfl) ?_
            obtain ⟨⟨sp_0, wr_0, sv_0⟩, hy_0⟩ : ∃ z9, P (sp + 1) false sv = z9 := ⟨_, rfl⟩
            refine wr_callv (va_runV (As := []) (rest := []) hC (cRm.at hP (sp + 1) false sv (gd.up (sp2 := sp + 1) hg (by omega) (by omega)) sp_0 wr_0 sv_0 hy_0) (cwV 0 hts gX6_factor_X6_factor rfl rfl rfl kd_X6_factor ⟨(show 10 + 3 * d + 1 ≤ 10 + 3 * (d + 1) by omega), (show 8 + (5 + 11) + (300 + 120 * d) ≤ 300 + 120 * (d + 1) by omega)⟩) (a_preV hK hZ f_s.1 rfl f_s) rfl rfl hl.1 rfl (lv_room (Nat.le_of_ble_eq_true rfl)) dX6_factor_80 ⟨Nat.zero_le _, Nat.zero_le _⟩) hS (fun q h => h) (fun H locs f_n hq hS => ?_)
            have hZ := hZ.kept (fun a9 h9 => hq a9 (fun z9 => h9 (hAZ a9 ((fun q h => h) a9 z9))))
            have f_s := f_n
            have hg0 := hPo.z (gd.up (sp2 := sp + 1) hg (by omega) (by omega)) hy_0
            have hz0 := hg0.1
            have hh0 := hPo.z (gd.up1 hg (by omega)) hy_0
            refine lv_aload_n hx hb dX6_factor_83 rfl (lv_at hl 1 rfl) ?_
            refine lv_iconst (v := (-1)) hx hb dX6_factor_84 (by decide) ?_
            refine wr_callv (va_runV (As := [.int (-1)]) (rest := []) hC (c_X6_emits l G M x an en sp_0 wr_0 (op + 1) sv_0 (-1) hN hen (by omega) han hg0.2) (cwV 1 hts gX6_factor_X6_emits rfl rfl rfl kd_X6_emits ⟨(show 0 + 1 ≤ 10 + 3 * (d + 1) by omega), (show 8 + (2 + 11) + (0) ≤ 300 + 120 * (d + 1) by omega)⟩) (ro_preV hK f_s.1 rfl f_s) rfl rfl hl.1 rfl (lv_room (Nat.le_of_ble_eq_true rfl)) dX6_factor_85 ⟨Nat.zero_le _, Nat.zero_le _⟩) hS (fun q h => h) (fun H locs f_n hq hS => ?_)
            have hZ := hZ.kept (fun a9 h9 => hq a9 (fun z9 => h9 (hAZ a9 ((fun q h => h) a9 z9))))
            have f_s := f_n
            refine lv_goto (tgt := 101) hx hb dX6_factor_88 (by decide) ?_
            refine lv_aload_n hx hb dX6_factor_101 rfl (lv_at hl 1 rfl) ?_
            refine lv_dup hx hb dX6_factor_102 rfl ?_
            refine r_get (C := RX6) (T := TX6) (N := 18) hx hb hts i_X6_factor_X6 hown hK f_s.1 rfl 8 (by decide) k_X6_factor_fieldLink_81 rfl rfl dX6_factor_103 ?_
            refine lv_iconst (v := 1) hx hb dX6_factor_106 (by decide) ?_
            refine lv_isub hx hb dX6_factor_107 ?_
            refine w_put (C := RX6) (T := TX6) (N := 18) hx hb hts i_X6_factor_X6 tyX6 tyX6_ok nmX6 hown hK f_s.1 hS (.inl rfl) rfl 8 (by decide) k_X6_factor_fieldLink_81 rfl rfl rfl rfl (Nat.le_of_ble_eq_true rfl) dX6_factor_108 (fun H locs hn hq hS => ?_)
            have hZ := hZ.put (hAZ _ (.inl rfl)) hq
            rw [op_down op] at hn
            have f_s : PAt G M x (nI an) (nI en) (nI sp_0) wr_0 (nI op) (r_emits an en (-1) wr_0 sv_0) H := f_s.rest hN hn hq
            have hE9 : r_factorS an en P E sp wr sv = (sp_0, wr_0, (r_emits an en (-1) wr_0 sv_0)) := (by (try unfold r_factorS); (repeat rw [if_neg h_1]); (repeat rw [if_pos h_2]); (repeat rw [if_neg h_3]); (repeat rw [if_neg h_4]); (repeat rw [if_pos h_5]); (try rw [hy_0]); (try dsimp only); first | done | rfl)
            exact wr_vret hx hb hr hlocks dX6_factor_111 hS (by rw [hE9]; exact f_s)
        · exact absurd h_4 (by decide)
      · exact absurd h_3 (op5 hop)
    · have h_2 : ¬ ((r_here en sp sv) = 33) := h_2
      refine lv_iload_n hx hb dX6_factor_19 rfl (lv_at hl 0 rfl) ?_
      refine lv_bipush (v := 40) hx hb dX6_factor_20 (by decide +kernel) ?_
      refine lv_icmp_ne (tgt := 112) hx hb dX6_factor_22 (by decide) (fun h_6 => ?_) (fun h_6 => ?_)
      · have h_6 : ¬ ((r_here en sp sv) = 40) := h_6
        refine lv_aload_n hx hb dX6_factor_112 rfl (lv_at hl 1 rfl) ?_
        refine va_ldcS hx hb hown (hZ.2.2.2.2.2 13 (by decide)) dX6_factor_113 ?_
        obtain ⟨⟨v_0, sp_0⟩, hy_0⟩ : ∃ z9, r_among an en 13 sp sv = z9 := ⟨_, rfl⟩
        refine wr_call (va_runV (As := [.ref (zK Z 13)]) (rest := []) hC (c2_X6_among l G Z M x an en sp wr op sv 13 hN hAZ hen (by omega) (by decide) v_0 sp_0 hy_0) (cwV 1 hts gX6_factor_X6_among rfl rfl rfl kd_X6_among ⟨(show 4 + 1 ≤ 10 + 3 * (d + 1) by omega), (show 8 + (3 + 11) + (85) ≤ 300 + 120 * (d + 1) by omega)⟩) (a_preV hK hZ f_s.1 rfl f_s) rfl rfl hl.1 rfl (lv_room (Nat.le_of_ble_eq_true rfl)) dX6_factor_115 ⟨Nat.zero_le _, Nat.zero_le _⟩) hS (fun q h => h) (fun H locs f_n hq hS => ?_)
        have hZ := hZ.kept (fun a9 h9 => hq a9 (fun z9 => h9 (hAZ a9 ((fun q h => h) a9 z9))))
        have f_s := f_n
        have hq_0 := E_among hy_0 hen (by omega)
        refine lv_istore_n (lv' := [(2, .int v_0), (1, .int (r_here en sp sv)), (0, .ref (M 0))]) hx hb dX6_factor_118 rfl hl (by decide) rfl (fun ls hl => ?_)
        refine lv_aload_n hx hb dX6_factor_119 rfl (lv_at hl 2 rfl) ?_
        refine lv_iload_n hx hb dX6_factor_120 rfl (lv_at hl 0 rfl) ?_
        refine lv_iconst (v := (-1)) hx hb dX6_factor_121 (by decide) ?_
        refine lv_icmp_ne (tgt := 129) hx hb dX6_factor_122 (by decide) (fun h_7 => ?_) (fun h_7 => ?_)
        · have h_7 : ¬ (v_0 = (-1)) := h_7
          refine lv_iconst (v := 0) hx hb dX6_factor_129 (by decide) ?_
          refine w_put (C := RX6) (T := TX6) (N := 18) hx hb hts i_X6_factor_X6 tyX6 tyX6_ok nmX6 hown hK f_s.1 hS (.inl rfl) rfl 7 (by decide) k_X6_factor_fieldLink_57 rfl rfl rfl rfl (Nat.le_of_ble_eq_true rfl) dX6_factor_130 (fun H locs hn hq hS => ?_)
          have hZ := hZ.put (hAZ _ (.inl rfl)) hq
          have f_s : PAt G M x (nI an) (nI en) (nI sp_0) false (nI op) sv H := f_s.rest hN hn hq
          refine lv_aload_n hx hb dX6_factor_133 rfl (lv_at hl 2 rfl) ?_
          refine r_get (C := RX6) (T := TX6) (N := 18) hx hb hts i_X6_factor_X6 hown hK f_s.1 rfl 7 (by decide) k_X6_factor_fieldLink_57 rfl rfl dX6_factor_134 ?_
          refine bz_eq (tgt := 144) hx hb dX6_factor_137 (by decide) (fun h_8 => ?_) (fun h_8 => ?_)
          · have h_8 : ¬ (false = true) := h_8
            refine lv_aload_n hx hb dX6_factor_144 rfl (lv_at hl 2 rfl) ?_
            refine va_ldcS hx hb hown (hZ.2.2.2.2.2 14 (by decide)) dX6_factor_145 ?_
            obtain ⟨⟨v_1, sp_1⟩, hy_1⟩ : ∃ z9, r_among an en 14 sp_0 sv = z9 := ⟨_, rfl⟩
            refine wr_call (va_runV (As := [.ref (zK Z 14)]) (rest := []) hC (c2_X6_among l G Z M x an en sp_0 false op sv 14 hN hAZ hen (by omega) (by decide) v_1 sp_1 hy_1) (cwV 1 hts gX6_factor_X6_among rfl rfl rfl kd_X6_among ⟨(show 4 + 1 ≤ 10 + 3 * (d + 1) by omega), (show 8 + (3 + 11) + (85) ≤ 300 + 120 * (d + 1) by omega)⟩) (a_preV hK hZ f_s.1 rfl f_s) rfl rfl hl.1 rfl (lv_room (Nat.le_of_ble_eq_true rfl)) dX6_factor_147 ⟨Nat.zero_le _, Nat.zero_le _⟩) hS (fun q h => h) (fun H locs f_n hq hS => ?_)
            have hZ := hZ.kept (fun a9 h9 => hq a9 (fun z9 => h9 (hAZ a9 ((fun q h => h) a9 z9))))
            have f_s := f_n
            have hq_1 := E_among hy_1 hen (by omega)
            refine lv_istore_n (lv' := [(3, .int v_1), (2, .int v_0), (1, .int (r_here en sp sv)), (0, .ref (M 0))]) hx hb dX6_factor_150 rfl hl (by decide) rfl (fun ls hl => ?_)
            refine lv_aload_n hx hb dX6_factor_151 rfl (lv_at hl 3 rfl) ?_
            refine lv_aload_n hx hb dX6_factor_152 rfl (lv_at hl 3 rfl) ?_
            refine r_get (C := RX6) (T := TX6) (N := 18) hx hb hts i_X6_factor_X6 hown hK f_s.1 rfl 7 (by decide) k_X6_factor_fieldLink_57 rfl rfl dX6_factor_153 ?_
            refine bz_ne (tgt := 164) hx hb dX6_factor_156 (by decide) (fun h_9 => ?_) (fun h_9 => ?_)
            · exact absurd h_9 (by decide)
            · have h_9 : ¬ (false = true) := h_9
              refine lv_iload_n hx hb dX6_factor_159 rfl (lv_at hl 0 rfl) ?_
              refine lv_iconst (v := (-1)) hx hb dX6_factor_160 (by decide) ?_
              refine lv_icmp_ne (tgt := 168) hx hb dX6_factor_161 (by decide) (fun h_10 => ?_) (fun h_10 => ?_)
              · have h_10 : ¬ (v_1 = (-1)) := h_10
                refine lv_iconst (v := 0) hx hb dX6_factor_168 (by decide) ?_
                refine w_put (C := RX6) (T := TX6) (N := 18) hx hb hts i_X6_factor_X6 tyX6 tyX6_ok nmX6 hown hK f_s.1 hS (.inl rfl) rfl 7 (by decide) k_X6_factor_fieldLink_57 rfl rfl rfl rfl (Nat.le_of_ble_eq_true rfl) dX6_factor_169 (fun H locs hn hq hS => ?_)
                have hZ := hZ.put (hAZ _ (.inl rfl)) hq
                have f_s : PAt G M x (nI an) (nI en) (nI sp_1) false (nI op) sv H := f_s.rest hN hn hq
                refine lv_aload_n hx hb dX6_factor_172 rfl (lv_at hl 3 rfl) ?_
                obtain ⟨⟨v_2, sp_2, wr_2⟩, hy_2⟩ : ∃ z9, r_figures an en sp_1 false sv = z9 := ⟨_, rfl⟩
                refine wr_call (va_runV (As := []) (rest := []) hC (c2_X6_figures l G M x an en sp_1 false op sv hN hen (by omega) v_2 sp_2 wr_2 hy_2) (cwV 0 hts gX6_factor_X6_figures rfl rfl rfl kd_X6_figures ⟨(show 1 + 1 ≤ 10 + 3 * (d + 1) by omega), (show 8 + (3 + 11) + (22) ≤ 300 + 120 * (d + 1) by omega)⟩) (ro_preV hK f_s.1 rfl f_s) rfl rfl hl.1 rfl (lv_room (Nat.le_of_ble_eq_true rfl)) dX6_factor_173 ⟨Nat.zero_le _, Nat.zero_le _⟩) hS (fun q h => h) (fun H locs f_n hq hS => ?_)
                have hZ := hZ.kept (fun a9 h9 => hq a9 (fun z9 => h9 (hAZ a9 ((fun q h => h) a9 z9))))
                have f_s := f_n
                have hq_2 := E_figures hy_2 hen (by omega)
                refine lv_istore (lv' := [(4, .int v_2), (3, .int v_1), (2, .int v_0), (1, .int (r_here en sp sv)), (0, .ref (M 0))]) hx hb dX6_factor_176 hl (by decide) rfl (fun ls hl => ?_)
                refine lv_aload_n hx hb dX6_factor_178 rfl (lv_at hl 4 rfl) ?_
                refine lv_iload_n hx hb dX6_factor_179 rfl (lv_at hl 2 rfl) ?_
                refine lv_bipush (v := 8) hx hb dX6_factor_180 (by decide +kernel) ?_
                refine lv_iload_n hx hb dX6_factor_182 rfl (lv_at hl 1 rfl) ?_
                refine lv_imul hx hb dX6_factor_183 ?_
                refine lv_iadd hx hb dX6_factor_184 ?_
                refine lv_bipush (v := 32) hx hb dX6_factor_185 (by decide +kernel) ?_
                refine lv_iload hx hb dX6_factor_187 (lv_at hl 0 rfl) ?_
                refine lv_imul hx hb dX6_factor_189 ?_
                refine lv_iadd hx hb dX6_factor_190 ?_
                refine wr_callv (va_runV (As := [.int ((v_0 + (8 * v_1)) + (32 * v_2))]) (rest := []) hC (c_X6_emits l G M x an en sp_2 wr_2 op sv ((v_0 + (8 * v_1)) + (32 * v_2)) hN hen (by omega) han (gd.up (sp2 := sp_2) (gd.up (sp2 := sp_1) (gd.up (sp2 := sp_0) hg (by omega) (by omega)) (by omega) (by omega)) (by omega) (by omega))) (cwV 1 hts gX6_factor_X6_emits rfl rfl rfl kd_X6_emits ⟨(show 0 + 1 ≤ 10 + 3 * (d + 1) by omega), (show 8 + (2 + 11) + (0) ≤ 300 + 120 * (d + 1) by omega)⟩) (ro_preV hK f_s.1 rfl f_s) rfl rfl hl.1 rfl (lv_room (Nat.le_of_ble_eq_true rfl)) dX6_factor_191 ⟨Nat.zero_le _, Nat.zero_le _⟩) hS (fun q h => h) (fun H locs f_n hq hS => ?_)
                have hZ := hZ.kept (fun a9 h9 => hq a9 (fun z9 => h9 (hAZ a9 ((fun q h => h) a9 z9))))
                have f_s := f_n
                have hE9 : r_factorS an en P E sp wr sv = (sp_2, wr_2, (r_emits an en ((v_0 + (8 * v_1)) + (32 * v_2)) wr_2 sv)) := (by (try unfold r_factorS); (repeat rw [if_neg h_1]); (repeat rw [if_neg h_2]); (repeat rw [if_neg h_6]); (try rw [hy_0]); (try dsimp only); (repeat rw [if_neg h_7]); (repeat rw [if_neg h_8]); (try rw [hy_1]); (try dsimp only); (repeat rw [if_neg h_9]); (repeat rw [if_neg h_10]); (try rw [hy_2]); (try dsimp only); first | done | rfl)
                exact wr_vret hx hb hr hlocks dX6_factor_194 hS (by rw [hE9]; exact f_s)
              · have h_10 : v_1 = (-1) := h_10
                refine lv_iconst (v := 1) hx hb dX6_factor_164 (by decide) ?_
                refine lv_goto (tgt := 169) hx hb dX6_factor_165 (by decide) ?_
                refine w_put (C := RX6) (T := TX6) (N := 18) hx hb hts i_X6_factor_X6 tyX6 tyX6_ok nmX6 hown hK f_s.1 hS (.inl rfl) rfl 7 (by decide) k_X6_factor_fieldLink_57 rfl rfl rfl rfl (Nat.le_of_ble_eq_true rfl) dX6_factor_169 (fun H locs hn hq hS => ?_)
                have hZ := hZ.put (hAZ _ (.inl rfl)) hq
                have f_s : PAt G M x (nI an) (nI en) (nI sp_1) true (nI op) sv H := f_s.rest hN hn hq
                refine lv_aload_n hx hb dX6_factor_172 rfl (lv_at hl 3 rfl) ?_
                refine wr_call (va_runV (As := []) (rest := []) hC (c2_X6_figures l G M x an en sp_1 true op sv hN hen (by omega) 0 sp_1 true (fig_w an en sp_1 sv)) (cwV 0 hts gX6_factor_X6_figures rfl rfl rfl kd_X6_figures ⟨(show 1 + 1 ≤ 10 + 3 * (d + 1) by omega), (show 8 + (3 + 11) + (22) ≤ 300 + 120 * (d + 1) by omega)⟩) (ro_preV hK f_s.1 rfl f_s) rfl rfl hl.1 rfl (lv_room (Nat.le_of_ble_eq_true rfl)) dX6_factor_173 ⟨Nat.zero_le _, Nat.zero_le _⟩) hS (fun q h => h) (fun H locs f_n hq hS => ?_)
                have hZ := hZ.kept (fun a9 h9 => hq a9 (fun z9 => h9 (hAZ a9 ((fun q h => h) a9 z9))))
                have f_s := f_n
                refine lv_istore (lv' := [(4, .int 0), (3, .int v_1), (2, .int v_0), (1, .int (r_here en sp sv)), (0, .ref (M 0))]) hx hb dX6_factor_176 hl (by decide) rfl (fun ls hl => ?_)
                refine lv_aload_n hx hb dX6_factor_178 rfl (lv_at hl 4 rfl) ?_
                refine lv_iload_n hx hb dX6_factor_179 rfl (lv_at hl 2 rfl) ?_
                refine lv_bipush (v := 8) hx hb dX6_factor_180 (by decide +kernel) ?_
                refine lv_iload_n hx hb dX6_factor_182 rfl (lv_at hl 1 rfl) ?_
                refine lv_imul hx hb dX6_factor_183 ?_
                refine lv_iadd hx hb dX6_factor_184 ?_
                refine lv_bipush (v := 32) hx hb dX6_factor_185 (by decide +kernel) ?_
                refine lv_iload hx hb dX6_factor_187 (lv_at hl 0 rfl) ?_
                refine lv_imul hx hb dX6_factor_189 ?_
                refine lv_iadd hx hb dX6_factor_190 ?_
                refine wr_callv (va_runV (As := [.int ((v_0 + (8 * v_1)) + (32 * 0))]) (rest := []) hC (c_X6_emits l G M x an en sp_1 true op sv ((v_0 + (8 * v_1)) + (32 * 0)) hN hen (by omega) han (gd.up (sp2 := sp_1) (gd.up (sp2 := sp_0) hg (by omega) (by omega)) (by omega) (by omega))) (cwV 1 hts gX6_factor_X6_emits rfl rfl rfl kd_X6_emits ⟨(show 0 + 1 ≤ 10 + 3 * (d + 1) by omega), (show 8 + (2 + 11) + (0) ≤ 300 + 120 * (d + 1) by omega)⟩) (ro_preV hK f_s.1 rfl f_s) rfl rfl hl.1 rfl (lv_room (Nat.le_of_ble_eq_true rfl)) dX6_factor_191 ⟨Nat.zero_le _, Nat.zero_le _⟩) hS (fun q h => h) (fun H locs f_n hq hS => ?_)
                have hZ := hZ.kept (fun a9 h9 => hq a9 (fun z9 => h9 (hAZ a9 ((fun q h => h) a9 z9))))
                have f_s := (f_n : PAt G M x (nI an) (nI en) (nI sp_1) true (nI op) sv H)
                have hE9 : r_factorS an en P E sp wr sv = (sp_1, true, sv) := (by (try unfold r_factorS); (repeat rw [if_neg h_1]); (repeat rw [if_neg h_2]); (repeat rw [if_neg h_6]); (try rw [hy_0]); (try dsimp only); (repeat rw [if_neg h_7]); (repeat rw [if_neg h_8]); (try rw [hy_1]); (try dsimp only); (repeat rw [if_neg h_9]); (repeat rw [if_pos h_10]); first | done | rfl)
                exact wr_vret hx hb hr hlocks dX6_factor_194 hS (by rw [hE9]; exact f_s)
          · exact absurd h_8 (by decide)
        · have h_7 : v_0 = (-1) := h_7
          refine lv_iconst (v := 1) hx hb dX6_factor_125 (by decide) ?_
          refine lv_goto (tgt := 130) hx hb dX6_factor_126 (by decide) ?_
          refine w_put (C := RX6) (T := TX6) (N := 18) hx hb hts i_X6_factor_X6 tyX6 tyX6_ok nmX6 hown hK f_s.1 hS (.inl rfl) rfl 7 (by decide) k_X6_factor_fieldLink_57 rfl rfl rfl rfl (Nat.le_of_ble_eq_true rfl) dX6_factor_130 (fun H locs hn hq hS => ?_)
          have hZ := hZ.put (hAZ _ (.inl rfl)) hq
          have f_s : PAt G M x (nI an) (nI en) (nI sp_0) true (nI op) sv H := f_s.rest hN hn hq
          refine lv_aload_n hx hb dX6_factor_133 rfl (lv_at hl 2 rfl) ?_
          refine r_get (C := RX6) (T := TX6) (N := 18) hx hb hts i_X6_factor_X6 hown hK f_s.1 rfl 7 (by decide) k_X6_factor_fieldLink_57 rfl rfl dX6_factor_134 ?_
          refine bz_eq (tgt := 144) hx hb dX6_factor_137 (by decide) (fun h_11 => ?_) (fun h_11 => ?_)
          · exact absurd rfl h_11
          · have h_11 : true = true := h_11
            refine lv_iconst (v := 0) hx hb dX6_factor_140 (by decide) ?_
            refine lv_goto (tgt := 150) hx hb dX6_factor_141 (by decide) ?_
            refine lv_istore_n (lv' := [(3, .int 0), (2, .int v_0), (1, .int (r_here en sp sv)), (0, .ref (M 0))]) hx hb dX6_factor_150 rfl hl (by decide) rfl (fun ls hl => ?_)
            refine lv_aload_n hx hb dX6_factor_151 rfl (lv_at hl 3 rfl) ?_
            refine lv_aload_n hx hb dX6_factor_152 rfl (lv_at hl 3 rfl) ?_
            refine r_get (C := RX6) (T := TX6) (N := 18) hx hb hts i_X6_factor_X6 hown hK f_s.1 rfl 7 (by decide) k_X6_factor_fieldLink_57 rfl rfl dX6_factor_153 ?_
            refine bz_ne (tgt := 164) hx hb dX6_factor_156 (by decide) (fun h_12 => ?_) (fun h_12 => ?_)
            · have h_12 : true = true := h_12
              refine lv_iconst (v := 1) hx hb dX6_factor_164 (by decide) ?_
              refine lv_goto (tgt := 169) hx hb dX6_factor_165 (by decide) ?_
              refine w_put (C := RX6) (T := TX6) (N := 18) hx hb hts i_X6_factor_X6 tyX6 tyX6_ok nmX6 hown hK f_s.1 hS (.inl rfl) rfl 7 (by decide) k_X6_factor_fieldLink_57 rfl rfl rfl rfl (Nat.le_of_ble_eq_true rfl) dX6_factor_169 (fun H locs hn hq hS => ?_)
              have hZ := hZ.put (hAZ _ (.inl rfl)) hq
              have f_s : PAt G M x (nI an) (nI en) (nI sp_0) true (nI op) sv H := f_s.rest hN hn hq
              refine lv_aload_n hx hb dX6_factor_172 rfl (lv_at hl 3 rfl) ?_
              refine wr_call (va_runV (As := []) (rest := []) hC (c2_X6_figures l G M x an en sp_0 true op sv hN hen (by omega) 0 sp_0 true (fig_w an en sp_0 sv)) (cwV 0 hts gX6_factor_X6_figures rfl rfl rfl kd_X6_figures ⟨(show 1 + 1 ≤ 10 + 3 * (d + 1) by omega), (show 8 + (3 + 11) + (22) ≤ 300 + 120 * (d + 1) by omega)⟩) (ro_preV hK f_s.1 rfl f_s) rfl rfl hl.1 rfl (lv_room (Nat.le_of_ble_eq_true rfl)) dX6_factor_173 ⟨Nat.zero_le _, Nat.zero_le _⟩) hS (fun q h => h) (fun H locs f_n hq hS => ?_)
              have hZ := hZ.kept (fun a9 h9 => hq a9 (fun z9 => h9 (hAZ a9 ((fun q h => h) a9 z9))))
              have f_s := f_n
              refine lv_istore (lv' := [(4, .int 0), (3, .int 0), (2, .int v_0), (1, .int (r_here en sp sv)), (0, .ref (M 0))]) hx hb dX6_factor_176 hl (by decide) rfl (fun ls hl => ?_)
              refine lv_aload_n hx hb dX6_factor_178 rfl (lv_at hl 4 rfl) ?_
              refine lv_iload_n hx hb dX6_factor_179 rfl (lv_at hl 2 rfl) ?_
              refine lv_bipush (v := 8) hx hb dX6_factor_180 (by decide +kernel) ?_
              refine lv_iload_n hx hb dX6_factor_182 rfl (lv_at hl 1 rfl) ?_
              refine lv_imul hx hb dX6_factor_183 ?_
              refine lv_iadd hx hb dX6_factor_184 ?_
              refine lv_bipush (v := 32) hx hb dX6_factor_185 (by decide +kernel) ?_
              refine lv_iload hx hb dX6_factor_187 (lv_at hl 0 rfl) ?_
              refine lv_imul hx hb dX6_factor_189 ?_
              refine lv_iadd hx hb dX6_factor_190 ?_
              refine wr_callv (va_runV (As := [.int ((v_0 + (8 * 0)) + (32 * 0))]) (rest := []) hC (c_X6_emits l G M x an en sp_0 true op sv ((v_0 + (8 * 0)) + (32 * 0)) hN hen (by omega) han (gd.up (sp2 := sp_0) hg (by omega) (by omega))) (cwV 1 hts gX6_factor_X6_emits rfl rfl rfl kd_X6_emits ⟨(show 0 + 1 ≤ 10 + 3 * (d + 1) by omega), (show 8 + (2 + 11) + (0) ≤ 300 + 120 * (d + 1) by omega)⟩) (ro_preV hK f_s.1 rfl f_s) rfl rfl hl.1 rfl (lv_room (Nat.le_of_ble_eq_true rfl)) dX6_factor_191 ⟨Nat.zero_le _, Nat.zero_le _⟩) hS (fun q h => h) (fun H locs f_n hq hS => ?_)
              have hZ := hZ.kept (fun a9 h9 => hq a9 (fun z9 => h9 (hAZ a9 ((fun q h => h) a9 z9))))
              have f_s := (f_n : PAt G M x (nI an) (nI en) (nI sp_0) true (nI op) sv H)
              have hE9 : r_factorS an en P E sp wr sv = (sp_0, true, sv) := (by (try unfold r_factorS); (repeat rw [if_neg h_1]); (repeat rw [if_neg h_2]); (repeat rw [if_neg h_6]); (try rw [hy_0]); (try dsimp only); (repeat rw [if_pos h_7]); (repeat rw [if_pos h_11]); (repeat rw [if_pos h_12]); first | done | rfl)
              exact wr_vret hx hb hr hlocks dX6_factor_194 hS (by rw [hE9]; exact f_s)
            · exact absurd rfl h_12
      · have h_6 : (r_here en sp sv) = 40 := h_6
        refine lv_aload_n hx hb dX6_factor_25 rfl (lv_at hl 1 rfl) ?_
        refine lv_aload_n hx hb dX6_factor_26 rfl (lv_at hl 1 rfl) ?_
        refine r_get (C := RX6) (T := TX6) (N := 18) hx hb hts i_X6_factor_X6 hown hK f_s.1 rfl 8 (by decide) k_X6_factor_fieldLink_81 rfl rfl dX6_factor_27 ?_
        refine lv_iconst (v := 5) hx hb dX6_factor_30 (by decide) ?_
        refine lv_icmp_ne (tgt := 38) hx hb dX6_factor_31 (by decide) (fun h_13 => ?_) (fun h_13 => ?_)
        · have h_13 : ¬ ((nI op) = 5) := h_13
          refine lv_iconst (v := 0) hx hb dX6_factor_38 (by decide) ?_
          refine w_put (C := RX6) (T := TX6) (N := 18) hx hb hts i_X6_factor_X6 tyX6 tyX6_ok nmX6 hown hK f_s.1 hS (.inl rfl) rfl 7 (by decide) k_X6_factor_fieldLink_57 rfl rfl rfl rfl (Nat.le_of_ble_eq_true rfl) dX6_factor_39 (fun H locs hn hq hS => ?_)
          have hZ := hZ.put (hAZ _ (.inl rfl)) hq
          have f_s : PAt G M x (nI an) (nI en) (nI sp) false (nI op) sv H := f_s.rest hN hn hq
          refine lv_aload_n hx hb dX6_factor_42 rfl (lv_at hl 1 rfl) ?_
          refine lv_dup hx hb dX6_factor_43 rfl ?_
          refine r_get (C := RX6) (T := TX6) (N := 18) hx hb hts i_X6_factor_X6 hown hK f_s.1 rfl 8 (by decide) k_X6_factor_fieldLink_81 rfl rfl dX6_factor_44 ?_
          refine lv_iconst (v := 1) hx hb dX6_factor_47 (by decide) ?_
          refine lv_iadd hx hb dX6_factor_48 ?_
          refine w_put (C := RX6) (T := TX6) (N := 18) hx hb hts i_X6_factor_X6 tyX6 tyX6_ok nmX6 hown hK f_s.1 hS (.inl rfl) rfl 8 (by decide) k_X6_factor_fieldLink_81 rfl rfl rfl rfl (Nat.le_of_ble_eq_true rfl) dX6_factor_49 (fun H locs hn hq hS => ?_)
          have hZ := hZ.put (hAZ _ (.inl rfl)) hq
          rw [← nI_succ] at hn
          have f_s : PAt G M x (nI an) (nI en) (nI sp) false (nI (op + 1)) sv H := f_s.rest hN hn hq
          refine lv_aload_n hx hb dX6_factor_52 rfl (lv_at hl 1 rfl) ?_
          refine lv_dup hx hb dX6_factor_53 rfl ?_
          refine r_get (C := RX6) (T := TX6) (N := 18) hx hb hts i_X6_factor_X6 hown hK f_s.1 rfl 5 (by decide) k_X6_factor_fieldLink_51 rfl rfl dX6_factor_54 ?_
          refine lv_aload_n hx hb dX6_factor_57 rfl (lv_at hl 1 rfl) ?_
          refine r_get (C := RX6) (T := TX6) (N := 18) hx hb hts i_X6_factor_X6 hown hK f_s.1 rfl 7 (by decide) k_X6_factor_fieldLink_57 rfl rfl dX6_factor_58 ?_
          refine bz_eq (tgt := 68) hx hb dX6_factor_61 (by decide) (fun h_14 => ?_) (fun h_14 => ?_)
          · have h_14 : ¬ (false = true) := h_14
            refine lv_iconst (v := 1) hx hb dX6_factor_68 (by decide) ?_
            refine lv_iadd hx hb dX6_factor_69 ?_
            refine w_put (C := RX6) (T := TX6) (N := 18) hx hb hts i_X6_factor_X6 tyX6 tyX6_ok nmX6 hown hK f_s.1 hS (.inl rfl) rfl 5 (by decide) k_X6_factor_fieldLink_51 rfl rfl rfl rfl (Nat.le_of_ble_eq_true rfl) dX6_factor_70 (fun H locs hn hq hS => ?_)
            have hZ := hZ.put (hAZ _ (.inl rfl)) hq
            have hl9 := here_eq (n := 40) h_6 (by decide) hen (by omega)
            rw [← nI_succ] at hn
            have f_s : PAt G M x (nI an) (nI en) (nI (sp + 1)) false (nI (op + 1)) sv H := f_s.rest hN hn hq
            refine lv_iload_n hx hb dX6_factor_73 rfl (lv_at hl 0 rfl) ?_
            refine lv_bipush (v := 33) hx hb dX6_factor_74 (by decide +kernel) ?_
            refine lv_icmp_ne (tgt := 91) hx hb dX6_factor_76 (by decide) (fun h_15 => ?_) (fun h_15 => ?_)
            · have h_15 : ¬ ((r_here en sp sv) = 33) := h_15
              refine lv_aload_n hx hb dX6_factor_91 rfl (lv_at hl 1 rfl) ?_
              obtain ⟨⟨sp_0, wr_0, sv_0⟩, hy_0⟩ : ∃ z9, E (sp + 1) false sv = z9 := ⟨_, rfl⟩
              refine wr_callv (va_runV (As := []) (rest := []) hC (cRm.at hE (sp + 1) false sv (gd.up (sp2 := sp + 1) hg (by omega) (by omega)) sp_0 wr_0 sv_0 hy_0) (cwV 0 hts gX6_factor_X6_some rfl rfl rfl kd_X6_some ⟨(show 12 + 3 * d + 1 ≤ 10 + 3 * (d + 1) by omega), (show 8 + (1 + 11) + (380 + 120 * d) ≤ 300 + 120 * (d + 1) by omega)⟩) (a_preV hK hZ f_s.1 rfl f_s) rfl rfl hl.1 rfl (lv_room (Nat.le_of_ble_eq_true rfl)) dX6_factor_92 ⟨Nat.zero_le _, Nat.zero_le _⟩) hS (fun q h => h) (fun H locs f_n hq hS => ?_)
              have hZ := hZ.kept (fun a9 h9 => hq a9 (fun z9 => h9 (hAZ a9 ((fun q h => h) a9 z9))))
              have f_s := f_n
              have hg0 := hEo.z (gd.up (sp2 := sp + 1) hg (by omega) (by omega)) hy_0
              have hz0 := hg0.1
              have hh0 := hEo.z (gd.up1 hg (by omega)) hy_0
              refine lv_aload_n hx hb dX6_factor_95 rfl (lv_at hl 1 rfl) ?_
              refine lv_bipush (v := 41) hx hb dX6_factor_96 (by decide +kernel) ?_
              obtain ⟨⟨sp_1, wr_1⟩, hy_1⟩ : ∃ z9, r_must an en 41 sp_0 wr_0 sv_0 = z9 := ⟨_, rfl⟩
              refine wr_callv (va_runV (As := [.int 41]) (rest := []) hC (c2_X6_must l G M x an en sp_0 wr_0 (op + 1) sv_0 41 hN hen (by omega) sp_1 wr_1 hy_1) (cwV 1 hts gX6_factor_X6_must rfl rfl rfl kd_X6_must ⟨(show 1 + 1 ≤ 10 + 3 * (d + 1) by omega), (show 8 + (2 + 11) + (20) ≤ 300 + 120 * (d + 1) by omega)⟩) (ro_preV hK f_s.1 rfl f_s) rfl rfl hl.1 rfl (lv_room (Nat.le_of_ble_eq_true rfl)) dX6_factor_98 ⟨Nat.zero_le _, Nat.zero_le _⟩) hS (fun q h => h) (fun H locs f_n hq hS => ?_)
              have hZ := hZ.kept (fun a9 h9 => hq a9 (fun z9 => h9 (hAZ a9 ((fun q h => h) a9 z9))))
              have f_s := f_n
              have hq_1 := E_must hy_1 (by first | decide | exact txB_nn _ _) hen (by omega)
              refine lv_aload_n hx hb dX6_factor_101 rfl (lv_at hl 1 rfl) ?_
              refine lv_dup hx hb dX6_factor_102 rfl ?_
              refine r_get (C := RX6) (T := TX6) (N := 18) hx hb hts i_X6_factor_X6 hown hK f_s.1 rfl 8 (by decide) k_X6_factor_fieldLink_81 rfl rfl dX6_factor_103 ?_
              refine lv_iconst (v := 1) hx hb dX6_factor_106 (by decide) ?_
              refine lv_isub hx hb dX6_factor_107 ?_
              refine w_put (C := RX6) (T := TX6) (N := 18) hx hb hts i_X6_factor_X6 tyX6 tyX6_ok nmX6 hown hK f_s.1 hS (.inl rfl) rfl 8 (by decide) k_X6_factor_fieldLink_81 rfl rfl rfl rfl (Nat.le_of_ble_eq_true rfl) dX6_factor_108 (fun H locs hn hq hS => ?_)
              have hZ := hZ.put (hAZ _ (.inl rfl)) hq
              rw [op_down op] at hn
              have f_s : PAt G M x (nI an) (nI en) (nI sp_1) wr_1 (nI op) sv_0 H := f_s.rest hN hn hq
              have hE9 : r_factorS an en P E sp wr sv = (sp_1, wr_1, sv_0) := (by (try unfold r_factorS); (repeat rw [if_neg h_1]); (repeat rw [if_neg h_2]); (repeat rw [if_pos h_6]); (repeat rw [if_neg h_13]); (repeat rw [if_neg h_14]); (repeat rw [if_neg h_15]); (try rw [hy_0]); (try dsimp only); (try rw [hy_1]); (try dsimp only); first | done | rfl)
              exact wr_vret hx hb hr hlocks dX6_factor_111 hS (by rw [hE9]; exact f_s)
            · exact absurd h_15 h_2
          · exact absurd h_14 (by decide)
        · exact absurd h_13 (op5 hop)
  · have h_1 : wr = true := h_1
    have hE9 : r_factorS an en P E sp wr sv = (sp, wr, sv) := (by (try unfold r_factorS); (repeat rw [if_pos h_1]); first | done | rfl)
    exact wr_vret hx hb hr hlocks dX6_factor_7 hS (by rw [hE9]; exact f_s)
theorem c2_X6_factor_s (l : Launch) (G : GG) (Z : AM) (M : Nat → Nat) (x : MT) (an en sp : Nat) (wr : Bool) (op : Nat) (sv : Nat → Int32)  (hN : mN M) (hAZ : ∀ q : Nat, m01 M q → Z.1 q) (hen : en ≤ 120) (han : an < 8) (hg : gd an en 0 sp sv) (d : Nat) (P E : PF6) (hop : op < 5) (hP : cRm l G Z M x an en yX6_factor wsX6_factor { frames := 10 + 3 * d, cells := 0, slots := 0, locals := 300 + 120 * d } (op + 1) P) (hPo : pOK an en P) (hE : cRm l G Z M x an en yX6_some wsX6_some { frames := 12 + 3 * d, cells := 0, slots := 0, locals := 380 + 120 * d } (op + 1) E) (hEo : pOK an en E) (sp9 : Nat) (wr9 : Bool) (sv9 : Nat → Int32) (hy9 : r_factorS an en P E sp wr sv = (sp9, wr9, sv9)) : Met l yX6_factor wsX6_factor { frames := 10 + 3 * (d + 1), cells := 0, slots := 0, locals := 300 + 120 * (d + 1) } (aP G Z [.ref (M 0)] (fun H => PAt G M x (nI an) (nI en) (nI sp) wr (nI op) sv H)) (wrQ none (fun H => PAt G M x (nI an) (nI en) (nI sp9) wr9 (nI op) sv9 H) (m01 M)) 0 0 (m01 M) := by
  have h9 := c_X6_factor_s l G Z M x an en sp wr op sv hN hAZ hen han hg d P E hop hP hPo hE hEo
  rw [hy9] at h9
  exact h9
theorem k_X6_every_fieldLink_51 : Cond.fieldLink RX6 51 "SameWaterModel" "spot" "I" ∈ wsX6_every := by decide +kernel
def r_everyGo (an en : Nat) (P : PF6) : Nat → Nat → Bool → (Nat → Int32) → Nat × Bool × (Nat → Int32)
  | 0, sp_k, wr_k, sv_k => (sp_k, wr_k, sv_k)
  | n + 1, sp_k, wr_k, sv_k => if wr_k = true then (sp_k, wr_k, sv_k) else if (r_here en sp_k sv_k) = 38 then (match P (sp_k + 1) wr_k sv_k with | (sp_1, wr_1, sv_1) => r_everyGo an en P n sp_1 wr_1 (r_emits an en (-2) wr_1 sv_1)) else (sp_k, wr_k, sv_k)
theorem r_everyGo_s (an en : Nat) (P : PF6) (n : Nat) (sp_k : Nat) (wr_k : Bool) (sv_k : Nat → Int32) : r_everyGo an en P (n + 1) sp_k wr_k sv_k = (if wr_k = true then (sp_k, wr_k, sv_k) else if (r_here en sp_k sv_k) = 38 then (match P (sp_k + 1) wr_k sv_k with | (sp_1, wr_1, sv_1) => r_everyGo an en P n sp_1 wr_1 (r_emits an en (-2) wr_1 sv_1)) else (sp_k, wr_k, sv_k)) := rfl
def r_every (an en : Nat) (P : PF6) (sp : Nat) (wr : Bool) (sv : Nat → Int32) : Nat × Bool × (Nat → Int32) := (match P sp wr sv with | (sp_0, wr_0, sv_0) => r_everyGo an en P 121 sp_0 wr_0 sv_0)
set_option maxHeartbeats 1000000 in
set_option maxRecDepth 100000 in
theorem c_X6_every (l : Launch) (G : GG) (Z : AM) (M : Nat → Nat) (x : MT) (an en sp : Nat) (wr : Bool) (op : Nat) (sv : Nat → Int32)  (hN : mN M) (hAZ : ∀ q : Nat, m01 M q → Z.1 q) (hen : en ≤ 120) (han : an < 8) (hg : gd an en 0 sp sv) (d : Nat) (P : PF6) (hP : cRm l G Z M x an en yX6_factor wsX6_factor { frames := 10 + 3 * d, cells := 0, slots := 0, locals := 300 + 120 * d } op P) (hPo : pOK an en P) : Met l yX6_every wsX6_every { frames := 11 + 3 * d, cells := 0, slots := 0, locals := 340 + 120 * d } (aP G Z [.ref (M 0)] (fun H => PAt G M x (nI an) (nI en) (nI sp) wr (nI op) sv H)) (wrQ none (fun H => PAt G M x (nI an) (nI en) (nI ((r_every an en P sp wr sv).1)) ((r_every an en P sp wr sv).2.1) (nI op) ((r_every an en P sp wr sv).2.2) H) (m01 M)) 0 0 (m01 M) := by
  refine Met.ofW (cc := cX6_every) (maxL := 1) (ret := none) (by decide) rfl ?_
  intro p e s m args below meth c s₁ Bd hml hv
  obtain ⟨rfl, hK, hZ, hB⟩ := hv
  have hx := Bd.exec
  have hb := Bd.bytes
  have hr := Bd.returns
  have hts := atoms_spec (ws := wsX6_every) Bd.pre
  have hown : s.vm.findClass RX6 = some m.cls := findClass_of_methodNamed Bd.named
  have hlocks := Bd.notSynchronized
  have hC : CallFix p m c cX6_every 1 s _ wsX6_every RX6 := ⟨hx, hb, hml, hown, hts⟩
  have hl := lv_entry ([.ref (M 0)]) (n := 1) (Nat.le_of_ble_eq_true rfl)
  rw [lg_entry_eq]
  generalize (lg_sl ([.ref (M 0)]) ++ List.replicate (1 - (lg_sl ([.ref (M 0)])).length) Slot.unset).toArray = ls at hl ⊢
  have hl : lv_has ls 1 [(0, .ref (M 0))] := hl
  have hS : wS (m01 M) s.heap s.heap [] := wS.rf
  have f_s := hB
  have hsp : sp ≤ en := hg.1
  refine lv_aload_n hx hb dX6_every_0 rfl (lv_at hl 0 rfl) ?_
  obtain ⟨⟨sp_0, wr_0, sv_0⟩, hy_0⟩ : ∃ z9, P sp wr sv = z9 := ⟨_, rfl⟩
  refine wr_callv (va_runV (As := []) (rest := []) hC (cRm.at hP sp wr sv hg sp_0 wr_0 sv_0 hy_0) (cwV 0 hts gX6_every_X6_factor rfl rfl rfl kd_X6_factor ⟨(show 10 + 3 * d + 1 ≤ 11 + 3 * d by omega), (show 8 + (5 + 11) + (300 + 120 * d) ≤ 340 + 120 * d by omega)⟩) (a_preV hK hZ f_s.1 rfl f_s) rfl rfl hl.1 rfl (lv_room (Nat.le_of_ble_eq_true rfl)) dX6_every_1 ⟨Nat.zero_le _, Nat.zero_le _⟩) hS (fun q h => h) (fun H locs f_n hq hS => ?_)
  have hZ := hZ.kept (fun a9 h9 => hq a9 (fun z9 => h9 (hAZ a9 ((fun q h => h) a9 z9))))
  have f_s := f_n
  have hg0 := hPo.z hg hy_0
  have hz0 := hg0.1
  refine loop_wr (nL := 1) (α := Nat × Nat × Bool × (Nat → Int32)) (fun a9 => [(0, .ref (M 0))]) (fun a9 H locs => (en - (a9.2.1) < a9.1 ∧ gd an en 0 (a9.2.1) (a9.2.2.2) ∧ r_everyGo an en P a9.1 (a9.2.1) (a9.2.2.1) (a9.2.2.2) = r_everyGo an en P 121 sp_0 wr_0 sv_0) ∧ (PAt G M x (nI an) (nI en) (nI (a9.2.1)) (a9.2.2.1) (nI op) (a9.2.2.2) H) ∧ wS (m01 M) s.heap H locs ∧ amK Z s H) (fun a9 => a9.1) (121, sp_0, wr_0, sv_0) ⟨⟨(show en - sp_0 < 121 by omega), hg0.2, rfl⟩, f_s, hS, hZ⟩ (lv_sub hl [0] rfl) (fun a9 H locs hI9 ih_k ls hl => ?_)
  obtain ⟨n9, sp_k, wr_k, sv_k⟩ := a9
  obtain ⟨hI9, f_s, hS, hZ⟩ := hI9
  have f_s : PAt G M x (nI an) (nI en) (nI sp_k) wr_k (nI op) sv_k H := f_s
  obtain ⟨hn9, hg_k, hV⟩ : en - sp_k < n9 ∧ gd an en 0 sp_k sv_k ∧ r_everyGo an en P n9 sp_k wr_k sv_k = r_everyGo an en P 121 sp_0 wr_0 sv_0 := hI9
  obtain ⟨n9, rfl⟩ : ∃ m, n9 = m + 1 := ⟨n9 - 1, by omega⟩
  have hl : lv_has ls 1 [(0, .ref (M 0))] := hl
  have hs_k : sp_k ≤ en := hg_k.1
  refine lv_aload_n hx hb dX6_every_4 rfl (lv_at hl 0 rfl) ?_
  refine r_get (C := RX6) (T := TX6) (N := 18) hx hb hts i_X6_every_X6 hown hK f_s.1 rfl 7 (by decide) k_X6_every_fieldLink_57 rfl rfl dX6_every_5 ?_
  refine bz_ne (tgt := 43) hx hb dX6_every_8 (by decide) (fun h_1 => ?_) (fun h_1 => ?_)
  · have h_1 : wr_k = true := h_1
    have hE9 : r_every an en P sp wr sv = (sp_k, wr_k, sv_k) := (by (try unfold r_every); (try rw [hy_0]); (try dsimp only); rw [← hV, r_everyGo_s]; (repeat rw [if_pos h_1]); first | done | rfl)
    exact wr_vret hx hb hr hlocks dX6_every_43 hS (by rw [hE9]; exact f_s)
  · have h_1 : ¬ (wr_k = true) := h_1
    refine lv_aload_n hx hb dX6_every_11 rfl (lv_at hl 0 rfl) ?_
    refine ro_call (va_runV (As := []) (rest := []) hC (c_X6_here l G M x an en sp_k wr_k op sv_k hen (by omega)) (cwV 0 hts gX6_every_X6_here rfl rfl rfl kd_X6_here ⟨(show 0 + 1 ≤ 11 + 3 * d by omega), (show 8 + (1 + 11) + (0) ≤ 340 + 120 * d by omega)⟩) (ro_preV hK f_s.1 rfl f_s) rfl rfl hl.1 rfl (lv_room (Nat.le_of_ble_eq_true rfl)) dX6_every_12 ⟨Nat.zero_le _, Nat.zero_le _⟩) ?_
    refine lv_bipush (v := 38) hx hb dX6_every_15 (by decide +kernel) ?_
    refine lv_icmp_ne (tgt := 43) hx hb dX6_every_17 (by decide) (fun h_2 => ?_) (fun h_2 => ?_)
    · have h_2 : ¬ ((r_here en sp_k sv_k) = 38) := h_2
      have hE9 : r_every an en P sp wr sv = (sp_k, wr_k, sv_k) := (by (try unfold r_every); (try rw [hy_0]); (try dsimp only); rw [← hV, r_everyGo_s]; (repeat rw [if_neg h_1]); (repeat rw [if_neg h_2]); first | done | rfl)
      exact wr_vret hx hb hr hlocks dX6_every_43 hS (by rw [hE9]; exact f_s)
    · have h_2 : (r_here en sp_k sv_k) = 38 := h_2
      refine lv_aload_n hx hb dX6_every_20 rfl (lv_at hl 0 rfl) ?_
      refine lv_dup hx hb dX6_every_21 rfl ?_
      refine r_get (C := RX6) (T := TX6) (N := 18) hx hb hts i_X6_every_X6 hown hK f_s.1 rfl 5 (by decide) k_X6_every_fieldLink_51 rfl rfl dX6_every_22 ?_
      refine lv_iconst (v := 1) hx hb dX6_every_25 (by decide) ?_
      refine lv_iadd hx hb dX6_every_26 ?_
      refine w_put (C := RX6) (T := TX6) (N := 18) hx hb hts i_X6_every_X6 tyX6 tyX6_ok nmX6 hown hK f_s.1 hS (.inl rfl) rfl 5 (by decide) k_X6_every_fieldLink_51 rfl rfl rfl rfl (Nat.le_of_ble_eq_true rfl) dX6_every_27 (fun H locs hn hq hS => ?_)
      have hZ := hZ.put (hAZ _ (.inl rfl)) hq
      have hl9 := here_eq (n := 38) h_2 (by decide) hen (by omega)
      rw [← nI_succ] at hn
      have f_s : PAt G M x (nI an) (nI en) (nI (sp_k + 1)) wr_k (nI op) sv_k H := f_s.rest hN hn hq
      refine lv_aload_n hx hb dX6_every_30 rfl (lv_at hl 0 rfl) ?_
      obtain ⟨⟨sp_1, wr_1, sv_1⟩, hy_1⟩ : ∃ z9, P (sp_k + 1) wr_k sv_k = z9 := ⟨_, rfl⟩
      refine wr_callv (va_runV (As := []) (rest := []) hC (cRm.at hP (sp_k + 1) wr_k sv_k (gd.up (sp2 := sp_k + 1) hg_k (by omega) (by omega)) sp_1 wr_1 sv_1 hy_1) (cwV 0 hts gX6_every_X6_factor rfl rfl rfl kd_X6_factor ⟨(show 10 + 3 * d + 1 ≤ 11 + 3 * d by omega), (show 8 + (5 + 11) + (300 + 120 * d) ≤ 340 + 120 * d by omega)⟩) (a_preV hK hZ f_s.1 rfl f_s) rfl rfl hl.1 rfl (lv_room (Nat.le_of_ble_eq_true rfl)) dX6_every_31 ⟨Nat.zero_le _, Nat.zero_le _⟩) hS (fun q h => h) (fun H locs f_n hq hS => ?_)
      have hZ := hZ.kept (fun a9 h9 => hq a9 (fun z9 => h9 (hAZ a9 ((fun q h => h) a9 z9))))
      have f_s := f_n
      have hg1 := hPo.z (gd.up (sp2 := sp_k + 1) hg_k (by omega) (by omega)) hy_1
      have hz1 := hg1.1
      have hh1 := hPo.z (gd.up1 hg_k (by omega)) hy_1
      refine lv_aload_n hx hb dX6_every_34 rfl (lv_at hl 0 rfl) ?_
      refine lv_bipush (v := (-2)) hx hb dX6_every_35 (by decide +kernel) ?_
      refine wr_callv (va_runV (As := [.int (-2)]) (rest := []) hC (c_X6_emits l G M x an en sp_1 wr_1 op sv_1 (-2) hN hen (by omega) han hg1.2) (cwV 1 hts gX6_every_X6_emits rfl rfl rfl kd_X6_emits ⟨(show 0 + 1 ≤ 11 + 3 * d by omega), (show 8 + (2 + 11) + (0) ≤ 340 + 120 * d by omega)⟩) (ro_preV hK f_s.1 rfl f_s) rfl rfl hl.1 rfl (lv_room (Nat.le_of_ble_eq_true rfl)) dX6_every_37 ⟨Nat.zero_le _, Nat.zero_le _⟩) hS (fun q h => h) (fun H locs f_n hq hS => ?_)
      have hZ := hZ.kept (fun a9 h9 => hq a9 (fun z9 => h9 (hAZ a9 ((fun q h => h) a9 z9))))
      have f_s := f_n
      refine lv_goto (tgt := 4) hx hb dX6_every_40 (by decide) ?_
      have hE : r_everyGo an en P n9 sp_1 wr_1 (r_emits an en (-2) wr_1 sv_1) = r_everyGo an en P 121 sp_0 wr_0 sv_0 := (by rw [← hV, r_everyGo_s]; (repeat rw [if_neg h_1]); (repeat rw [if_pos h_2]); (try rw [hy_1]); (try dsimp only); first | done | rfl)
      refine ih_k (n9, sp_1, wr_1, (r_emits an en (-2) wr_1 sv_1)) _ _ ⟨⟨(show en - sp_1 < n9 by omega), (emits_gd hh1.2 han hen), hE⟩, f_s, hS, hZ⟩ (show n9 < n9 + 1 by omega) ls ?_
      exact lv_sub hl [0] rfl
theorem c2_X6_every (l : Launch) (G : GG) (Z : AM) (M : Nat → Nat) (x : MT) (an en sp : Nat) (wr : Bool) (op : Nat) (sv : Nat → Int32)  (hN : mN M) (hAZ : ∀ q : Nat, m01 M q → Z.1 q) (hen : en ≤ 120) (han : an < 8) (hg : gd an en 0 sp sv) (d : Nat) (P : PF6) (hP : cRm l G Z M x an en yX6_factor wsX6_factor { frames := 10 + 3 * d, cells := 0, slots := 0, locals := 300 + 120 * d } op P) (hPo : pOK an en P) (sp9 : Nat) (wr9 : Bool) (sv9 : Nat → Int32) (hy9 : r_every an en P sp wr sv = (sp9, wr9, sv9)) : Met l yX6_every wsX6_every { frames := 11 + 3 * d, cells := 0, slots := 0, locals := 340 + 120 * d } (aP G Z [.ref (M 0)] (fun H => PAt G M x (nI an) (nI en) (nI sp) wr (nI op) sv H)) (wrQ none (fun H => PAt G M x (nI an) (nI en) (nI sp9) wr9 (nI op) sv9 H) (m01 M)) 0 0 (m01 M) := by
  have h9 := c_X6_every l G Z M x an en sp wr op sv hN hAZ hen han hg d P hP hPo
  rw [hy9] at h9
  exact h9
theorem k_X6_some_fieldLink_51 : Cond.fieldLink RX6 51 "SameWaterModel" "spot" "I" ∈ wsX6_some := by decide +kernel
def r_someGo (an en : Nat) (B9 : PF6) : Nat → Nat → Bool → (Nat → Int32) → Nat × Bool × (Nat → Int32)
  | 0, sp_k, wr_k, sv_k => (sp_k, wr_k, sv_k)
  | n + 1, sp_k, wr_k, sv_k => if wr_k = true then (sp_k, wr_k, sv_k) else if (r_here en sp_k sv_k) = 124 then (match B9 (sp_k + 1) wr_k sv_k with | (sp_1, wr_1, sv_1) => r_someGo an en B9 n sp_1 wr_1 (r_emits an en (-3) wr_1 sv_1)) else (sp_k, wr_k, sv_k)
theorem r_someGo_s (an en : Nat) (B9 : PF6) (n : Nat) (sp_k : Nat) (wr_k : Bool) (sv_k : Nat → Int32) : r_someGo an en B9 (n + 1) sp_k wr_k sv_k = (if wr_k = true then (sp_k, wr_k, sv_k) else if (r_here en sp_k sv_k) = 124 then (match B9 (sp_k + 1) wr_k sv_k with | (sp_1, wr_1, sv_1) => r_someGo an en B9 n sp_1 wr_1 (r_emits an en (-3) wr_1 sv_1)) else (sp_k, wr_k, sv_k)) := rfl
def r_some (an en : Nat) (B9 : PF6) (sp : Nat) (wr : Bool) (sv : Nat → Int32) : Nat × Bool × (Nat → Int32) := (match B9 sp wr sv with | (sp_0, wr_0, sv_0) => r_someGo an en B9 121 sp_0 wr_0 sv_0)
set_option maxHeartbeats 1000000 in
set_option maxRecDepth 100000 in
theorem c_X6_some (l : Launch) (G : GG) (Z : AM) (M : Nat → Nat) (x : MT) (an en sp : Nat) (wr : Bool) (op : Nat) (sv : Nat → Int32)  (hN : mN M) (hAZ : ∀ q : Nat, m01 M q → Z.1 q) (hen : en ≤ 120) (han : an < 8) (hg : gd an en 0 sp sv) (d : Nat) (B9 : PF6) (hB9 : cRm l G Z M x an en yX6_every wsX6_every { frames := 11 + 3 * d, cells := 0, slots := 0, locals := 340 + 120 * d } op B9) (hBo : pOK an en B9) : Met l yX6_some wsX6_some { frames := 12 + 3 * d, cells := 0, slots := 0, locals := 380 + 120 * d } (aP G Z [.ref (M 0)] (fun H => PAt G M x (nI an) (nI en) (nI sp) wr (nI op) sv H)) (wrQ none (fun H => PAt G M x (nI an) (nI en) (nI ((r_some an en B9 sp wr sv).1)) ((r_some an en B9 sp wr sv).2.1) (nI op) ((r_some an en B9 sp wr sv).2.2) H) (m01 M)) 0 0 (m01 M) := by
  refine Met.ofW (cc := cX6_some) (maxL := 1) (ret := none) (by decide) rfl ?_
  intro p e s m args below meth c s₁ Bd hml hv
  obtain ⟨rfl, hK, hZ, hB⟩ := hv
  have hx := Bd.exec
  have hb := Bd.bytes
  have hr := Bd.returns
  have hts := atoms_spec (ws := wsX6_some) Bd.pre
  have hown : s.vm.findClass RX6 = some m.cls := findClass_of_methodNamed Bd.named
  have hlocks := Bd.notSynchronized
  have hC : CallFix p m c cX6_some 1 s _ wsX6_some RX6 := ⟨hx, hb, hml, hown, hts⟩
  have hl := lv_entry ([.ref (M 0)]) (n := 1) (Nat.le_of_ble_eq_true rfl)
  rw [lg_entry_eq]
  generalize (lg_sl ([.ref (M 0)]) ++ List.replicate (1 - (lg_sl ([.ref (M 0)])).length) Slot.unset).toArray = ls at hl ⊢
  have hl : lv_has ls 1 [(0, .ref (M 0))] := hl
  have hS : wS (m01 M) s.heap s.heap [] := wS.rf
  have f_s := hB
  have hsp : sp ≤ en := hg.1
  refine lv_aload_n hx hb dX6_some_0 rfl (lv_at hl 0 rfl) ?_
  obtain ⟨⟨sp_0, wr_0, sv_0⟩, hy_0⟩ : ∃ z9, B9 sp wr sv = z9 := ⟨_, rfl⟩
  refine wr_callv (va_runV (As := []) (rest := []) hC (cRm.at hB9 sp wr sv hg sp_0 wr_0 sv_0 hy_0) (cwV 0 hts gX6_some_X6_every rfl rfl rfl kd_X6_every ⟨(show 11 + 3 * d + 1 ≤ 12 + 3 * d by omega), (show 8 + (1 + 11) + (340 + 120 * d) ≤ 380 + 120 * d by omega)⟩) (a_preV hK hZ f_s.1 rfl f_s) rfl rfl hl.1 rfl (lv_room (Nat.le_of_ble_eq_true rfl)) dX6_some_1 ⟨Nat.zero_le _, Nat.zero_le _⟩) hS (fun q h => h) (fun H locs f_n hq hS => ?_)
  have hZ := hZ.kept (fun a9 h9 => hq a9 (fun z9 => h9 (hAZ a9 ((fun q h => h) a9 z9))))
  have f_s := f_n
  have hg0 := hBo.z hg hy_0
  have hz0 := hg0.1
  refine loop_wr (nL := 1) (α := Nat × Nat × Bool × (Nat → Int32)) (fun a9 => [(0, .ref (M 0))]) (fun a9 H locs => (en - (a9.2.1) < a9.1 ∧ gd an en 0 (a9.2.1) (a9.2.2.2) ∧ r_someGo an en B9 a9.1 (a9.2.1) (a9.2.2.1) (a9.2.2.2) = r_someGo an en B9 121 sp_0 wr_0 sv_0) ∧ (PAt G M x (nI an) (nI en) (nI (a9.2.1)) (a9.2.2.1) (nI op) (a9.2.2.2) H) ∧ wS (m01 M) s.heap H locs ∧ amK Z s H) (fun a9 => a9.1) (121, sp_0, wr_0, sv_0) ⟨⟨(show en - sp_0 < 121 by omega), hg0.2, rfl⟩, f_s, hS, hZ⟩ (lv_sub hl [0] rfl) (fun a9 H locs hI9 ih_k ls hl => ?_)
  obtain ⟨n9, sp_k, wr_k, sv_k⟩ := a9
  obtain ⟨hI9, f_s, hS, hZ⟩ := hI9
  have f_s : PAt G M x (nI an) (nI en) (nI sp_k) wr_k (nI op) sv_k H := f_s
  obtain ⟨hn9, hg_k, hV⟩ : en - sp_k < n9 ∧ gd an en 0 sp_k sv_k ∧ r_someGo an en B9 n9 sp_k wr_k sv_k = r_someGo an en B9 121 sp_0 wr_0 sv_0 := hI9
  obtain ⟨n9, rfl⟩ : ∃ m, n9 = m + 1 := ⟨n9 - 1, by omega⟩
  have hl : lv_has ls 1 [(0, .ref (M 0))] := hl
  have hs_k : sp_k ≤ en := hg_k.1
  refine lv_aload_n hx hb dX6_some_4 rfl (lv_at hl 0 rfl) ?_
  refine r_get (C := RX6) (T := TX6) (N := 18) hx hb hts i_X6_some_X6 hown hK f_s.1 rfl 7 (by decide) k_X6_some_fieldLink_57 rfl rfl dX6_some_5 ?_
  refine bz_ne (tgt := 43) hx hb dX6_some_8 (by decide) (fun h_1 => ?_) (fun h_1 => ?_)
  · have h_1 : wr_k = true := h_1
    have hE9 : r_some an en B9 sp wr sv = (sp_k, wr_k, sv_k) := (by (try unfold r_some); (try rw [hy_0]); (try dsimp only); rw [← hV, r_someGo_s]; (repeat rw [if_pos h_1]); first | done | rfl)
    exact wr_vret hx hb hr hlocks dX6_some_43 hS (by rw [hE9]; exact f_s)
  · have h_1 : ¬ (wr_k = true) := h_1
    refine lv_aload_n hx hb dX6_some_11 rfl (lv_at hl 0 rfl) ?_
    refine ro_call (va_runV (As := []) (rest := []) hC (c_X6_here l G M x an en sp_k wr_k op sv_k hen (by omega)) (cwV 0 hts gX6_some_X6_here rfl rfl rfl kd_X6_here ⟨(show 0 + 1 ≤ 12 + 3 * d by omega), (show 8 + (1 + 11) + (0) ≤ 380 + 120 * d by omega)⟩) (ro_preV hK f_s.1 rfl f_s) rfl rfl hl.1 rfl (lv_room (Nat.le_of_ble_eq_true rfl)) dX6_some_12 ⟨Nat.zero_le _, Nat.zero_le _⟩) ?_
    refine lv_bipush (v := 124) hx hb dX6_some_15 (by decide +kernel) ?_
    refine lv_icmp_ne (tgt := 43) hx hb dX6_some_17 (by decide) (fun h_2 => ?_) (fun h_2 => ?_)
    · have h_2 : ¬ ((r_here en sp_k sv_k) = 124) := h_2
      have hE9 : r_some an en B9 sp wr sv = (sp_k, wr_k, sv_k) := (by (try unfold r_some); (try rw [hy_0]); (try dsimp only); rw [← hV, r_someGo_s]; (repeat rw [if_neg h_1]); (repeat rw [if_neg h_2]); first | done | rfl)
      exact wr_vret hx hb hr hlocks dX6_some_43 hS (by rw [hE9]; exact f_s)
    · have h_2 : (r_here en sp_k sv_k) = 124 := h_2
      refine lv_aload_n hx hb dX6_some_20 rfl (lv_at hl 0 rfl) ?_
      refine lv_dup hx hb dX6_some_21 rfl ?_
      refine r_get (C := RX6) (T := TX6) (N := 18) hx hb hts i_X6_some_X6 hown hK f_s.1 rfl 5 (by decide) k_X6_some_fieldLink_51 rfl rfl dX6_some_22 ?_
      refine lv_iconst (v := 1) hx hb dX6_some_25 (by decide) ?_
      refine lv_iadd hx hb dX6_some_26 ?_
      refine w_put (C := RX6) (T := TX6) (N := 18) hx hb hts i_X6_some_X6 tyX6 tyX6_ok nmX6 hown hK f_s.1 hS (.inl rfl) rfl 5 (by decide) k_X6_some_fieldLink_51 rfl rfl rfl rfl (Nat.le_of_ble_eq_true rfl) dX6_some_27 (fun H locs hn hq hS => ?_)
      have hZ := hZ.put (hAZ _ (.inl rfl)) hq
      have hl9 := here_eq (n := 124) h_2 (by decide) hen (by omega)
      rw [← nI_succ] at hn
      have f_s : PAt G M x (nI an) (nI en) (nI (sp_k + 1)) wr_k (nI op) sv_k H := f_s.rest hN hn hq
      refine lv_aload_n hx hb dX6_some_30 rfl (lv_at hl 0 rfl) ?_
      obtain ⟨⟨sp_1, wr_1, sv_1⟩, hy_1⟩ : ∃ z9, B9 (sp_k + 1) wr_k sv_k = z9 := ⟨_, rfl⟩
      refine wr_callv (va_runV (As := []) (rest := []) hC (cRm.at hB9 (sp_k + 1) wr_k sv_k (gd.up (sp2 := sp_k + 1) hg_k (by omega) (by omega)) sp_1 wr_1 sv_1 hy_1) (cwV 0 hts gX6_some_X6_every rfl rfl rfl kd_X6_every ⟨(show 11 + 3 * d + 1 ≤ 12 + 3 * d by omega), (show 8 + (1 + 11) + (340 + 120 * d) ≤ 380 + 120 * d by omega)⟩) (a_preV hK hZ f_s.1 rfl f_s) rfl rfl hl.1 rfl (lv_room (Nat.le_of_ble_eq_true rfl)) dX6_some_31 ⟨Nat.zero_le _, Nat.zero_le _⟩) hS (fun q h => h) (fun H locs f_n hq hS => ?_)
      have hZ := hZ.kept (fun a9 h9 => hq a9 (fun z9 => h9 (hAZ a9 ((fun q h => h) a9 z9))))
      have f_s := f_n
      have hg1 := hBo.z (gd.up (sp2 := sp_k + 1) hg_k (by omega) (by omega)) hy_1
      have hz1 := hg1.1
      have hh1 := hBo.z (gd.up1 hg_k (by omega)) hy_1
      refine lv_aload_n hx hb dX6_some_34 rfl (lv_at hl 0 rfl) ?_
      refine lv_bipush (v := (-3)) hx hb dX6_some_35 (by decide +kernel) ?_
      refine wr_callv (va_runV (As := [.int (-3)]) (rest := []) hC (c_X6_emits l G M x an en sp_1 wr_1 op sv_1 (-3) hN hen (by omega) han hg1.2) (cwV 1 hts gX6_some_X6_emits rfl rfl rfl kd_X6_emits ⟨(show 0 + 1 ≤ 12 + 3 * d by omega), (show 8 + (2 + 11) + (0) ≤ 380 + 120 * d by omega)⟩) (ro_preV hK f_s.1 rfl f_s) rfl rfl hl.1 rfl (lv_room (Nat.le_of_ble_eq_true rfl)) dX6_some_37 ⟨Nat.zero_le _, Nat.zero_le _⟩) hS (fun q h => h) (fun H locs f_n hq hS => ?_)
      have hZ := hZ.kept (fun a9 h9 => hq a9 (fun z9 => h9 (hAZ a9 ((fun q h => h) a9 z9))))
      have f_s := f_n
      refine lv_goto (tgt := 4) hx hb dX6_some_40 (by decide) ?_
      have hE : r_someGo an en B9 n9 sp_1 wr_1 (r_emits an en (-3) wr_1 sv_1) = r_someGo an en B9 121 sp_0 wr_0 sv_0 := (by rw [← hV, r_someGo_s]; (repeat rw [if_neg h_1]); (repeat rw [if_pos h_2]); (try rw [hy_1]); (try dsimp only); first | done | rfl)
      refine ih_k (n9, sp_1, wr_1, (r_emits an en (-3) wr_1 sv_1)) _ _ ⟨⟨(show en - sp_1 < n9 by omega), (emits_gd hh1.2 han hen), hE⟩, f_s, hS, hZ⟩ (show n9 < n9 + 1 by omega) ls ?_
      exact lv_sub hl [0] rfl
theorem c2_X6_some (l : Launch) (G : GG) (Z : AM) (M : Nat → Nat) (x : MT) (an en sp : Nat) (wr : Bool) (op : Nat) (sv : Nat → Int32)  (hN : mN M) (hAZ : ∀ q : Nat, m01 M q → Z.1 q) (hen : en ≤ 120) (han : an < 8) (hg : gd an en 0 sp sv) (d : Nat) (B9 : PF6) (hB9 : cRm l G Z M x an en yX6_every wsX6_every { frames := 11 + 3 * d, cells := 0, slots := 0, locals := 340 + 120 * d } op B9) (hBo : pOK an en B9) (sp9 : Nat) (wr9 : Bool) (sv9 : Nat → Int32) (hy9 : r_some an en B9 sp wr sv = (sp9, wr9, sv9)) : Met l yX6_some wsX6_some { frames := 12 + 3 * d, cells := 0, slots := 0, locals := 380 + 120 * d } (aP G Z [.ref (M 0)] (fun H => PAt G M x (nI an) (nI en) (nI sp) wr (nI op) sv H)) (wrQ none (fun H => PAt G M x (nI an) (nI en) (nI sp9) wr9 (nI op) sv9 H) (m01 M)) 0 0 (m01 M) := by
  have h9 := c_X6_some l G Z M x an en sp wr op sv hN hAZ hen han hg d B9 hB9 hBo
  rw [hy9] at h9
  exact h9

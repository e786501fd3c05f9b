theorem i_X5_age_X5 : ∀ w ∈ wsX50, w ∈ wsX5_age := fun _ h => List.mem_cons_of_mem _ (List.mem_append_left _ (List.mem_append_left _ (List.mem_append_right _ h)))
theorem k_X5_age_fieldLink_14 : Cond.fieldLink RX5 14 "SameWater" "now" "LSameWater$World;" ∈ wsX5_age := by decide +kernel
theorem i_X5_age_X4 : ∀ w ∈ wsX40, w ∈ wsX5_age := fun _ h => List.mem_cons_of_mem _ (List.mem_append_left _ (List.mem_append_right _ h))
theorem k_X5_age_fieldLink_28 : Cond.fieldLink RX5 28 "SameWater$World" "children" "LSameWater$Rows;" ∈ wsX5_age := by decide +kernel
theorem kd_X2_has : yX2_has.cls = RX2 ∧ yX2_has.cls ≠ "java/lang/invoke/MethodHandle" ∧ yX2_has.cls ≠ "java/lang/invoke/VarHandle" ∧ (parseMethodDescriptor yX2_has.desc).map (fun d => d.parameters.length) = some 1 := by decide +kernel
def s_age (wd : WT) (child : Int32) : Int32 := if (f_has (wCh wd) child) = true then f_at 5 (wCh wd) child 0 else (-1)
set_option maxHeartbeats 4000000 in
set_option maxRecDepth 100000 in
theorem c_X5_age (l : Launch) (G : GG) (AD ad td : Nat → Nat) (wd wt : WT) (tk : Bool) (rn : Int32) (bo : Nat → Int32) (child : Int32)  : Met l yX5_age wsX5_age { frames := 1, cells := 0, slots := 0, locals := 22 } (roP G [.ref (AD 0), .int child] (fun H => CAt G AD ad td wd wt tk rn bo H)) (roQ (some (.int (s_age wd child)))) 0 0 nF := by
  refine Met.ofW (cc := cX5_age) (maxL := 2) (ret := (some .int)) (by decide) rfl ?_
  intro p e s m args below meth c s₁ Bd hml hv
  obtain ⟨rfl, hK, hB⟩ := hv
  have hx := Bd.exec
  have hb := Bd.bytes
  have hr := Bd.returns
  have hts := atoms_spec (ws := wsX5_age) Bd.pre
  have hown : s.vm.findClass RX5 = some m.cls := findClass_of_methodNamed Bd.named
  have hlocks := Bd.notSynchronized
  have hC : CallFix p m c cX5_age 2 s _ wsX5_age RX5 := ⟨hx, hb, hml, hown, hts⟩
  have hl := lv_entry ([.ref (AD 0), .int child]) (n := 2) (Nat.le_of_ble_eq_true rfl)
  rw [lg_entry_eq]
  generalize (lg_sl ([.ref (AD 0), .int child]) ++ List.replicate (2 - (lg_sl ([.ref (AD 0), .int child])).length) Slot.unset).toArray = ls at hl ⊢
  have hl : lv_has ls 2 [(0, .ref (AD 0)), (1, .int child)] := hl
  have f_s := hB
  obtain ⟨f_c, hW, f_t, f_a, f_b⟩ := hB
  obtain ⟨f_o, f_ch, f_as, f_an, f_tp, ⟨qf, f_q, hqf⟩, f_lw, hlc⟩ := id hW
  refine lv_aload_n hx hb dX5_age_0 rfl (lv_at hl 0 rfl) ?_
  refine r_get (C := RX5) (T := TX5) (N := 4) hx hb hts i_X5_age_X5 hown hK f_c rfl 0 (by decide) k_X5_age_fieldLink_14 rfl rfl dX5_age_1 ?_
  refine r_get (C := RX4) (T := TX4) (N := 6) hx hb hts i_X5_age_X4 hown hK f_o rfl 0 (by decide) k_X5_age_fieldLink_28 rfl rfl dX5_age_4 ?_
  refine lv_iload_n hx hb dX5_age_7 rfl (lv_at hl 1 rfl) ?_
  refine ro_call (va_runV (As := [.int child]) (rest := []) hC (c_X2_has l G (ad 1) (ad 2) 8 5 (wCh wd) child) (cwV 1 hts gX5_age_X2_has rfl rfl rfl kd_X2_has ⟨Nat.le_of_ble_eq_true rfl, Nat.le_of_ble_eq_true rfl⟩) (ro_preV hK f_ch.1 rfl f_ch) rfl rfl hl.1 rfl (lv_room (Nat.le_of_ble_eq_true rfl)) dX5_age_8 ⟨Nat.zero_le _, Nat.zero_le _⟩) ?_
  refine join_at (nL := 2) 30 [(0, .ref (AD 0)), (1, .int child)] [.int (if (f_has (wCh wd) child) = true then f_at 5 (wCh wd) child 0 else (-1))] (fun ls hl => ?_) (fun J_1 => ?_)
  · exact ro_iret hx hb hr hlocks dX5_age_30 rfl
  · refine bz_eq (tgt := 29) hx hb dX5_age_11 (by decide) (fun h_2 => ?_) (fun h_2 => ?_)
    · refine lv_iconst (v := (-1)) hx hb dX5_age_29 (by decide) ?_
      have hJ := J_1; (repeat rw [if_neg h_2] at hJ)
      first | exact hJ ls (lv_sub hl [0, 1] rfl) | ((repeat rw [if_neg h_2] at hl); (repeat rw [if_neg h_2]); exact hJ ls (lv_sub hl [0, 1] rfl))
    · refine lv_aload_n hx hb dX5_age_14 rfl (lv_at hl 0 rfl) ?_
      refine r_get (C := RX5) (T := TX5) (N := 4) hx hb hts i_X5_age_X5 hown hK f_c rfl 0 (by decide) k_X5_age_fieldLink_14 rfl rfl dX5_age_15 ?_
      refine r_get (C := RX4) (T := TX4) (N := 6) hx hb hts i_X5_age_X4 hown hK f_o rfl 0 (by decide) k_X5_age_fieldLink_28 rfl rfl dX5_age_18 ?_
      refine lv_iload_n hx hb dX5_age_21 rfl (lv_at hl 1 rfl) ?_
      refine lv_iconst (v := 0) hx hb dX5_age_22 (by decide) ?_
      refine ro_call (va_runV (As := [.int child, .int 0]) (rest := []) hC (c_X2_at l G (ad 1) (ad 2) 8 5 (wCh wd) child 0) (cwV 2 hts gX5_age_X2_at rfl rfl rfl kd_X2_at ⟨Nat.le_of_ble_eq_true rfl, Nat.le_of_ble_eq_true rfl⟩) (ro_preV hK f_ch.1 rfl f_ch) rfl rfl hl.1 rfl (lv_room (Nat.le_of_ble_eq_true rfl)) dX5_age_23 ⟨Nat.zero_le _, Nat.zero_le _⟩) ?_
      refine lv_goto (tgt := 30) hx hb dX5_age_26 (by decide) ?_
      have hJ := J_1; (repeat rw [if_pos h_2] at hJ)
      first | exact hJ ls (lv_sub hl [0, 1] rfl) | ((repeat rw [if_pos h_2] at hl); (repeat rw [if_pos h_2]); exact hJ ls (lv_sub hl [0, 1] rfl))
theorem i_X5_of_X5 : ∀ w ∈ wsX50, w ∈ wsX5_of := fun _ h => List.mem_cons_of_mem _ (List.mem_append_left _ (List.mem_append_left _ (List.mem_append_right _ h)))
theorem k_X5_of_fieldLink_14 : Cond.fieldLink RX5 14 "SameWater" "now" "LSameWater$World;" ∈ wsX5_of := by decide +kernel
theorem i_X5_of_X4 : ∀ w ∈ wsX40, w ∈ wsX5_of := fun _ h => List.mem_cons_of_mem _ (List.mem_append_left _ (List.mem_append_right _ h))
theorem k_X5_of_fieldLink_61 : Cond.fieldLink RX5 61 "SameWater$World" "askings" "LSameWater$Rows;" ∈ wsX5_of := by decide +kernel
def s_of (wd : WT) (asking : Int32) (what : Int32) : Int32 := if (f_has (wAs wd) asking) = true then if what < 0 then (-1001) else if 7 ≤ what then (-1001) else f_at 7 (wAs wd) asking what else (-1001)
set_option maxHeartbeats 4000000 in
set_option maxRecDepth 100000 in
theorem c_X5_of (l : Launch) (G : GG) (AD ad td : Nat → Nat) (wd wt : WT) (tk : Bool) (rn : Int32) (bo : Nat → Int32) (asking : Int32) (what : Int32)  : Met l yX5_of wsX5_of { frames := 1, cells := 0, slots := 0, locals := 22 } (roP G [.ref (AD 0), .int asking, .int what] (fun H => CAt G AD ad td wd wt tk rn bo H)) (roQ (some (.int (s_of wd asking what)))) 0 0 nF := by
  refine Met.ofW (cc := cX5_of) (maxL := 3) (ret := (some .int)) (by decide) rfl ?_
  intro p e s m args below meth c s₁ Bd hml hv
  obtain ⟨rfl, hK, hB⟩ := hv
  have hx := Bd.exec
  have hb := Bd.bytes
  have hr := Bd.returns
  have hts := atoms_spec (ws := wsX5_of) Bd.pre
  have hown : s.vm.findClass RX5 = some m.cls := findClass_of_methodNamed Bd.named
  have hlocks := Bd.notSynchronized
  have hC : CallFix p m c cX5_of 3 s _ wsX5_of RX5 := ⟨hx, hb, hml, hown, hts⟩
  have hl := lv_entry ([.ref (AD 0), .int asking, .int what]) (n := 3) (Nat.le_of_ble_eq_true rfl)
  rw [lg_entry_eq]
  generalize (lg_sl ([.ref (AD 0), .int asking, .int what]) ++ List.replicate (3 - (lg_sl ([.ref (AD 0), .int asking, .int what])).length) Slot.unset).toArray = ls at hl ⊢
  have hl : lv_has ls 3 [(0, .ref (AD 0)), (1, .int asking), (2, .int what)] := hl
  have f_s := hB
  obtain ⟨f_c, hW, f_t, f_a, f_b⟩ := hB
  obtain ⟨f_o, f_ch, f_as, f_an, f_tp, ⟨qf, f_q, hqf⟩, f_lw, hlc⟩ := id hW
  refine lv_aload_n hx hb dX5_of_0 rfl (lv_at hl 0 rfl) ?_
  refine r_get (C := RX5) (T := TX5) (N := 4) hx hb hts i_X5_of_X5 hown hK f_c rfl 0 (by decide) k_X5_of_fieldLink_14 rfl rfl dX5_of_1 ?_
  refine r_get (C := RX4) (T := TX4) (N := 6) hx hb hts i_X5_of_X4 hown hK f_o rfl 1 (by decide) k_X5_of_fieldLink_61 rfl rfl dX5_of_4 ?_
  refine lv_iload_n hx hb dX5_of_7 rfl (lv_at hl 1 rfl) ?_
  refine ro_call (va_runV (As := [.int asking]) (rest := []) hC (c_X2_has l G (ad 3) (ad 4) 16 7 (wAs wd) asking) (cwV 1 hts gX5_of_X2_has rfl rfl rfl kd_X2_has ⟨Nat.le_of_ble_eq_true rfl, Nat.le_of_ble_eq_true rfl⟩) (ro_preV hK f_as.1 rfl f_as) rfl rfl hl.1 rfl (lv_room (Nat.le_of_ble_eq_true rfl)) dX5_of_8 ⟨Nat.zero_le _, Nat.zero_le _⟩) ?_
  refine join_at (nL := 3) 42 [(0, .ref (AD 0)), (1, .int asking), (2, .int what)] [.int (if (f_has (wAs wd) asking) = true then if what < 0 then (-1001) else if 7 ≤ what then (-1001) else f_at 7 (wAs wd) asking what else (-1001))] (fun ls hl => ?_) (fun J_1 => ?_)
  · exact ro_iret hx hb hr hlocks dX5_of_42 rfl
  · refine bz_eq (tgt := 39) hx hb dX5_of_11 (by decide) (fun h_2 => ?_) (fun h_2 => ?_)
    · refine lv_sipush (v := (-1001)) hx hb dX5_of_39 (by decide +kernel) ?_
      have hJ := J_1; (repeat rw [if_neg h_2] at hJ)
      first | exact hJ ls (lv_sub hl [0, 1, 2] rfl) | ((repeat rw [if_neg h_2] at hl); (repeat rw [if_neg h_2]); exact hJ ls (lv_sub hl [0, 1, 2] rfl))
    · refine lv_iload_n hx hb dX5_of_14 rfl (lv_at hl 2 rfl) ?_
      refine lv_if_lt (tgt := 39) hx hb dX5_of_15 (by decide) (fun h_3 => ?_) (fun h_3 => ?_)
      · refine lv_sipush (v := (-1001)) hx hb dX5_of_39 (by decide +kernel) ?_
        have hJ := J_1; (repeat rw [if_pos h_2] at hJ); (repeat rw [if_pos h_3] at hJ)
        first | exact hJ ls (lv_sub hl [0, 1, 2] rfl) | ((repeat rw [if_pos h_2] at hl); (repeat rw [if_pos h_3] at hl); (repeat rw [if_pos h_2]); (repeat rw [if_pos h_3]); exact hJ ls (lv_sub hl [0, 1, 2] rfl))
      · refine lv_iload_n hx hb dX5_of_18 rfl (lv_at hl 2 rfl) ?_
        refine lv_bipush (v := 7) hx hb dX5_of_19 (by decide +kernel) ?_
        refine lv_icmp_ge (tgt := 39) hx hb dX5_of_21 (by decide) (fun h_4 => ?_) (fun h_4 => ?_)
        · refine lv_sipush (v := (-1001)) hx hb dX5_of_39 (by decide +kernel) ?_
          have hJ := J_1; (repeat rw [if_pos h_2] at hJ); (repeat rw [if_neg h_3] at hJ); (repeat rw [if_pos h_4] at hJ)
          first | exact hJ ls (lv_sub hl [0, 1, 2] rfl) | ((repeat rw [if_pos h_2] at hl); (repeat rw [if_neg h_3] at hl); (repeat rw [if_pos h_4] at hl); (repeat rw [if_pos h_2]); (repeat rw [if_neg h_3]); (repeat rw [if_pos h_4]); exact hJ ls (lv_sub hl [0, 1, 2] rfl))
        · refine lv_aload_n hx hb dX5_of_24 rfl (lv_at hl 0 rfl) ?_
          refine r_get (C := RX5) (T := TX5) (N := 4) hx hb hts i_X5_of_X5 hown hK f_c rfl 0 (by decide) k_X5_of_fieldLink_14 rfl rfl dX5_of_25 ?_
          refine r_get (C := RX4) (T := TX4) (N := 6) hx hb hts i_X5_of_X4 hown hK f_o rfl 1 (by decide) k_X5_of_fieldLink_61 rfl rfl dX5_of_28 ?_
          refine lv_iload_n hx hb dX5_of_31 rfl (lv_at hl 1 rfl) ?_
          refine lv_iload_n hx hb dX5_of_32 rfl (lv_at hl 2 rfl) ?_
          refine ro_call (va_runV (As := [.int asking, .int what]) (rest := []) hC (c_X2_at l G (ad 3) (ad 4) 16 7 (wAs wd) asking what) (cwV 2 hts gX5_of_X2_at rfl rfl rfl kd_X2_at ⟨Nat.le_of_ble_eq_true rfl, Nat.le_of_ble_eq_true rfl⟩) (ro_preV hK f_as.1 rfl f_as) rfl rfl hl.1 rfl (lv_room (Nat.le_of_ble_eq_true rfl)) dX5_of_33 ⟨Nat.zero_le _, Nat.zero_le _⟩) ?_
          refine lv_goto (tgt := 42) hx hb dX5_of_36 (by decide) ?_
          have hJ := J_1; (repeat rw [if_pos h_2] at hJ); (repeat rw [if_neg h_3] at hJ); (repeat rw [if_neg h_4] at hJ)
          first | exact hJ ls (lv_sub hl [0, 1, 2] rfl) | ((repeat rw [if_pos h_2] at hl); (repeat rw [if_neg h_3] at hl); (repeat rw [if_neg h_4] at hl); (repeat rw [if_pos h_2]); (repeat rw [if_neg h_3]); (repeat rw [if_neg h_4]); exact hJ ls (lv_sub hl [0, 1, 2] rfl))
theorem i_X5_answered_X5 : ∀ w ∈ wsX50, w ∈ wsX5_answered := fun _ h => List.mem_cons_of_mem _ (List.mem_append_left _ (List.mem_append_left _ (List.mem_append_right _ h)))
theorem k_X5_answered_fieldLink_14 : Cond.fieldLink RX5 14 "SameWater" "now" "LSameWater$World;" ∈ wsX5_answered := by decide +kernel
theorem i_X5_answered_X4 : ∀ w ∈ wsX40, w ∈ wsX5_answered := fun _ h => List.mem_cons_of_mem _ (List.mem_append_left _ (List.mem_append_right _ h))
theorem k_X5_answered_fieldLink_72 : Cond.fieldLink RX5 72 "SameWater$World" "answers" "LSameWater$Rows;" ∈ wsX5_answered := by decide +kernel
def s_answered (wd : WT) (answer : Int32) (what : Int32) : Int32 := if (f_has (wAn wd) answer) = true then if what < 0 then (-1) else if 5 ≤ what then (-1) else f_at 5 (wAn wd) answer what else (-1)
set_option maxHeartbeats 4000000 in
set_option maxRecDepth 100000 in
theorem c_X5_answered (l : Launch) (G : GG) (AD ad td : Nat → Nat) (wd wt : WT) (tk : Bool) (rn : Int32) (bo : Nat → Int32) (answer : Int32) (what : Int32)  : Met l yX5_answered wsX5_answered { frames := 1, cells := 0, slots := 0, locals := 22 } (roP G [.ref (AD 0), .int answer, .int what] (fun H => CAt G AD ad td wd wt tk rn bo H)) (roQ (some (.int (s_answered wd answer what)))) 0 0 nF := by
  refine Met.ofW (cc := cX5_answered) (maxL := 3) (ret := (some .int)) (by decide) rfl ?_
  intro p e s m args below meth c s₁ Bd hml hv
  obtain ⟨rfl, hK, hB⟩ := hv
  have hx := Bd.exec
  have hb := Bd.bytes
  have hr := Bd.returns
  have hts := atoms_spec (ws := wsX5_answered) Bd.pre
  have hown : s.vm.findClass RX5 = some m.cls := findClass_of_methodNamed Bd.named
  have hlocks := Bd.notSynchronized
  have hC : CallFix p m c cX5_answered 3 s _ wsX5_answered RX5 := ⟨hx, hb, hml, hown, hts⟩
  have hl := lv_entry ([.ref (AD 0), .int answer, .int what]) (n := 3) (Nat.le_of_ble_eq_true rfl)
  rw [lg_entry_eq]
  generalize (lg_sl ([.ref (AD 0), .int answer, .int what]) ++ List.replicate (3 - (lg_sl ([.ref (AD 0), .int answer, .int what])).length) Slot.unset).toArray = ls at hl ⊢
  have hl : lv_has ls 3 [(0, .ref (AD 0)), (1, .int answer), (2, .int what)] := hl
  have f_s := hB
  obtain ⟨f_c, hW, f_t, f_a, f_b⟩ := hB
  obtain ⟨f_o, f_ch, f_as, f_an, f_tp, ⟨qf, f_q, hqf⟩, f_lw, hlc⟩ := id hW
  refine lv_aload_n hx hb dX5_answered_0 rfl (lv_at hl 0 rfl) ?_
  refine r_get (C := RX5) (T := TX5) (N := 4) hx hb hts i_X5_answered_X5 hown hK f_c rfl 0 (by decide) k_X5_answered_fieldLink_14 rfl rfl dX5_answered_1 ?_
  refine r_get (C := RX4) (T := TX4) (N := 6) hx hb hts i_X5_answered_X4 hown hK f_o rfl 2 (by decide) k_X5_answered_fieldLink_72 rfl rfl dX5_answered_4 ?_
  refine lv_iload_n hx hb dX5_answered_7 rfl (lv_at hl 1 rfl) ?_
  refine ro_call (va_runV (As := [.int answer]) (rest := []) hC (c_X2_has l G (ad 5) (ad 6) 40 5 (wAn wd) answer) (cwV 1 hts gX5_answered_X2_has rfl rfl rfl kd_X2_has ⟨Nat.le_of_ble_eq_true rfl, Nat.le_of_ble_eq_true rfl⟩) (ro_preV hK f_an.1 rfl f_an) rfl rfl hl.1 rfl (lv_room (Nat.le_of_ble_eq_true rfl)) dX5_answered_8 ⟨Nat.zero_le _, Nat.zero_le _⟩) ?_
  refine join_at (nL := 3) 39 [(0, .ref (AD 0)), (1, .int answer), (2, .int what)] [.int (if (f_has (wAn wd) answer) = true then if what < 0 then (-1) else if 5 ≤ what then (-1) else f_at 5 (wAn wd) answer what else (-1))] (fun ls hl => ?_) (fun J_1 => ?_)
  · exact ro_iret hx hb hr hlocks dX5_answered_39 rfl
  · refine bz_eq (tgt := 38) hx hb dX5_answered_11 (by decide) (fun h_2 => ?_) (fun h_2 => ?_)
    · refine lv_iconst (v := (-1)) hx hb dX5_answered_38 (by decide) ?_
      have hJ := J_1; (repeat rw [if_neg h_2] at hJ)
      first | exact hJ ls (lv_sub hl [0, 1, 2] rfl) | ((repeat rw [if_neg h_2] at hl); (repeat rw [if_neg h_2]); exact hJ ls (lv_sub hl [0, 1, 2] rfl))
    · refine lv_iload_n hx hb dX5_answered_14 rfl (lv_at hl 2 rfl) ?_
      refine lv_if_lt (tgt := 38) hx hb dX5_answered_15 (by decide) (fun h_3 => ?_) (fun h_3 => ?_)
      · refine lv_iconst (v := (-1)) hx hb dX5_answered_38 (by decide) ?_
        have hJ := J_1; (repeat rw [if_pos h_2] at hJ); (repeat rw [if_pos h_3] at hJ)
        first | exact hJ ls (lv_sub hl [0, 1, 2] rfl) | ((repeat rw [if_pos h_2] at hl); (repeat rw [if_pos h_3] at hl); (repeat rw [if_pos h_2]); (repeat rw [if_pos h_3]); exact hJ ls (lv_sub hl [0, 1, 2] rfl))
      · refine lv_iload_n hx hb dX5_answered_18 rfl (lv_at hl 2 rfl) ?_
        refine lv_iconst (v := 5) hx hb dX5_answered_19 (by decide) ?_
        refine lv_icmp_ge (tgt := 38) hx hb dX5_answered_20 (by decide) (fun h_4 => ?_) (fun h_4 => ?_)
        · refine lv_iconst (v := (-1)) hx hb dX5_answered_38 (by decide) ?_
          have hJ := J_1; (repeat rw [if_pos h_2] at hJ); (repeat rw [if_neg h_3] at hJ); (repeat rw [if_pos h_4] at hJ)
          first | exact hJ ls (lv_sub hl [0, 1, 2] rfl) | ((repeat rw [if_pos h_2] at hl); (repeat rw [if_neg h_3] at hl); (repeat rw [if_pos h_4] at hl); (repeat rw [if_pos h_2]); (repeat rw [if_neg h_3]); (repeat rw [if_pos h_4]); exact hJ ls (lv_sub hl [0, 1, 2] rfl))
        · refine lv_aload_n hx hb dX5_answered_23 rfl (lv_at hl 0 rfl) ?_
          refine r_get (C := RX5) (T := TX5) (N := 4) hx hb hts i_X5_answered_X5 hown hK f_c rfl 0 (by decide) k_X5_answered_fieldLink_14 rfl rfl dX5_answered_24 ?_
          refine r_get (C := RX4) (T := TX4) (N := 6) hx hb hts i_X5_answered_X4 hown hK f_o rfl 2 (by decide) k_X5_answered_fieldLink_72 rfl rfl dX5_answered_27 ?_
          refine lv_iload_n hx hb dX5_answered_30 rfl (lv_at hl 1 rfl) ?_
          refine lv_iload_n hx hb dX5_answered_31 rfl (lv_at hl 2 rfl) ?_
          refine ro_call (va_runV (As := [.int answer, .int what]) (rest := []) hC (c_X2_at l G (ad 5) (ad 6) 40 5 (wAn wd) answer what) (cwV 2 hts gX5_answered_X2_at rfl rfl rfl kd_X2_at ⟨Nat.le_of_ble_eq_true rfl, Nat.le_of_ble_eq_true rfl⟩) (ro_preV hK f_an.1 rfl f_an) rfl rfl hl.1 rfl (lv_room (Nat.le_of_ble_eq_true rfl)) dX5_answered_32 ⟨Nat.zero_le _, Nat.zero_le _⟩) ?_
          refine lv_goto (tgt := 39) hx hb dX5_answered_35 (by decide) ?_
          have hJ := J_1; (repeat rw [if_pos h_2] at hJ); (repeat rw [if_neg h_3] at hJ); (repeat rw [if_neg h_4] at hJ)
          first | exact hJ ls (lv_sub hl [0, 1, 2] rfl) | ((repeat rw [if_pos h_2] at hl); (repeat rw [if_neg h_3] at hl); (repeat rw [if_neg h_4] at hl); (repeat rw [if_pos h_2]); (repeat rw [if_neg h_3]); (repeat rw [if_neg h_4]); exact hJ ls (lv_sub hl [0, 1, 2] rfl))
theorem i_X5_told_X5 : ∀ w ∈ wsX50, w ∈ wsX5_told := fun _ h => List.mem_cons_of_mem _ (List.mem_append_left _ (List.mem_append_left _ (List.mem_append_right _ h)))
theorem k_X5_told_fieldLink_14 : Cond.fieldLink RX5 14 "SameWater" "now" "LSameWater$World;" ∈ wsX5_told := by decide +kernel
theorem i_X5_told_X4 : ∀ w ∈ wsX40, w ∈ wsX5_told := fun _ h => List.mem_cons_of_mem _ (List.mem_append_left _ (List.mem_append_right _ h))
theorem k_X5_told_fieldLink_96 : Cond.fieldLink RX5 96 "SameWater$World" "laws" "[LSameWater$Law;" ∈ wsX5_told := by decide +kernel
theorem i_X5_told_X1 : ∀ w ∈ wsX10, w ∈ wsX5_told := fun _ h => List.mem_cons_of_mem _ (List.mem_append_right _ h)
theorem k_X5_told_fieldLink_112 : Cond.fieldLink RX5 112 "SameWater$Law" "kind" "I" ∈ wsX5_told := by decide +kernel
theorem k_X5_told_fieldLink_115 : Cond.fieldLink RX5 115 "SameWater$Law" "v" "I" ∈ wsX5_told := by decide +kernel
theorem k_X5_told_fieldLink_121 : Cond.fieldLink RX5 121 "SameWater$Law" "slip" "I" ∈ wsX5_told := by decide +kernel
theorem k_X5_told_fieldLink_124 : Cond.fieldLink RX5 124 "SameWater$Law" "from" "[I" ∈ wsX5_told := by decide +kernel
def s_told (wd : WT) (law : Int32) (what : Int32) : Int32 := if (w_hasLaw wd law) = true then if what = 0 then lKind (wLw wd law.toNatClampNeg) else if what = 1 then lV (wLw wd law.toNatClampNeg) else if what = 2 then lSlip (wLw wd law.toNatClampNeg) else if (f_isStuff (what - 10)) = true then (lFrom (wLw wd law.toNatClampNeg)) (what - 10).toNatClampNeg else (-1) else (-1)
set_option maxHeartbeats 4000000 in
set_option maxRecDepth 100000 in
theorem c_X5_told (l : Launch) (G : GG) (AD ad td : Nat → Nat) (wd wt : WT) (tk : Bool) (rn : Int32) (bo : Nat → Int32) (law : Int32) (what : Int32)  : Met l yX5_told wsX5_told { frames := 1, cells := 0, slots := 0, locals := 21 } (roP G [.ref (AD 0), .int law, .int what] (fun H => CAt G AD ad td wd wt tk rn bo H)) (roQ (some (.int (s_told wd law what)))) 0 0 nF := by
  refine Met.ofW (cc := cX5_told) (maxL := 4) (ret := (some .int)) (by decide) rfl ?_
  intro p e s m args below meth c s₁ Bd hml hv
  obtain ⟨rfl, hK, hB⟩ := hv
  have hx := Bd.exec
  have hb := Bd.bytes
  have hr := Bd.returns
  have hts := atoms_spec (ws := wsX5_told) Bd.pre
  have hown : s.vm.findClass RX5 = some m.cls := findClass_of_methodNamed Bd.named
  have hlocks := Bd.notSynchronized
  have hC : CallFix p m c cX5_told 4 s _ wsX5_told RX5 := ⟨hx, hb, hml, hown, hts⟩
  have hl := lv_entry ([.ref (AD 0), .int law, .int what]) (n := 4) (Nat.le_of_ble_eq_true rfl)
  rw [lg_entry_eq]
  generalize (lg_sl ([.ref (AD 0), .int law, .int what]) ++ List.replicate (4 - (lg_sl ([.ref (AD 0), .int law, .int what])).length) Slot.unset).toArray = ls at hl ⊢
  have hl : lv_has ls 4 [(0, .ref (AD 0)), (1, .int law), (2, .int what)] := hl
  have f_s := hB
  obtain ⟨f_c, hW, f_t, f_a, f_b⟩ := hB
  obtain ⟨f_o, f_ch, f_as, f_an, f_tp, ⟨qf, f_q, hqf⟩, f_lw, hlc⟩ := id hW
  refine lv_aload_n hx hb dX5_told_0 rfl (lv_at hl 0 rfl) ?_
  refine r_get (C := RX5) (T := TX5) (N := 4) hx hb hts i_X5_told_X5 hown hK f_c rfl 0 (by decide) k_X5_told_fieldLink_14 rfl rfl dX5_told_1 ?_
  refine lv_iload_n hx hb dX5_told_4 rfl (lv_at hl 1 rfl) ?_
  refine ro_call (va_runV (As := [.int law]) (rest := []) hC (c_X4_hasLaw l G ad wd law) (cwV 1 hts gX5_told_X4_hasLaw rfl rfl rfl kd_X4_hasLaw ⟨Nat.le_of_ble_eq_true rfl, Nat.le_of_ble_eq_true rfl⟩) (ro_preV hK f_o rfl hW) rfl rfl hl.1 rfl (lv_room (Nat.le_of_ble_eq_true rfl)) dX5_told_5 ⟨Nat.zero_le _, Nat.zero_le _⟩) ?_
  refine bz_ne (tgt := 13) hx hb dX5_told_8 (by decide) (fun h_1 => ?_) (fun h_1 => ?_)
  · refine lv_aload_n hx hb dX5_told_13 rfl (lv_at hl 0 rfl) ?_
    refine r_get (C := RX5) (T := TX5) (N := 4) hx hb hts i_X5_told_X5 hown hK f_c rfl 0 (by decide) k_X5_told_fieldLink_14 rfl rfl dX5_told_14 ?_
    refine r_get (C := RX4) (T := TX4) (N := 6) hx hb hts i_X5_told_X4 hown hK f_o rfl 4 (by decide) k_X5_told_fieldLink_96 rfl rfl dX5_told_17 ?_
    refine lv_iload_n hx hb dX5_told_20 rfl (lv_at hl 1 rfl) ?_
    refine r_qald hx hb hK f_q (hasLaw_in h_1) (hqf _ (vp_lt (hasLaw_in h_1))) dX5_told_21 ?_
    refine lv_astore_n (lv' := [(3, .ref (ad (10 + 5 * law.toNatClampNeg))), (0, .ref (AD 0)), (1, .int law), (2, .int what)]) hx hb dX5_told_22 rfl hl (by decide) rfl (fun ls hl => ?_)
    refine lv_iload_n hx hb dX5_told_23 rfl (lv_at hl 3 rfl) ?_
    rcases Classical.em (what = 0) with h_2 | h_2
    · refine lv_tableIn (off := 28) (tgt := 52) hx hb dX5_told_24 (by rw [h_2]; decide) (by rw [h_2]; decide) (by rw [h_2]; rfl) (by decide) ?_
      refine lv_aload_n hx hb dX5_told_52 rfl (lv_at hl 0 rfl) ?_
      refine r_get (C := RX1) (T := TX1) (N := 8) hx hb hts i_X5_told_X1 hown hK (f_lw _ (vp_lt (hasLaw_in h_1))).1 rfl 1 (by decide) k_X5_told_fieldLink_112 rfl rfl dX5_told_53 ?_
      exact ro_iret hx hb hr hlocks dX5_told_56 (by (try unfold s_told); (repeat rw [if_pos h_1]); (repeat rw [if_pos h_2]); first | done | rfl)
    · rcases Classical.em (what = 1) with h_3 | h_3
      · refine lv_tableIn (off := 33) (tgt := 57) hx hb dX5_told_24 (by rw [h_3]; decide) (by rw [h_3]; decide) (by rw [h_3]; rfl) (by decide) ?_
        refine lv_aload_n hx hb dX5_told_57 rfl (lv_at hl 0 rfl) ?_
        refine r_get (C := RX1) (T := TX1) (N := 8) hx hb hts i_X5_told_X1 hown hK (f_lw _ (vp_lt (hasLaw_in h_1))).1 rfl 2 (by decide) k_X5_told_fieldLink_115 rfl rfl dX5_told_58 ?_
        exact ro_iret hx hb hr hlocks dX5_told_61 (by (try unfold s_told); (repeat rw [if_pos h_1]); (repeat rw [if_neg h_2]); (repeat rw [if_pos h_3]); first | done | rfl)
      · rcases Classical.em (what = 2) with h_4 | h_4
        · refine lv_tableIn (off := 38) (tgt := 62) hx hb dX5_told_24 (by rw [h_4]; decide) (by rw [h_4]; decide) (by rw [h_4]; rfl) (by decide) ?_
          refine lv_aload_n hx hb dX5_told_62 rfl (lv_at hl 0 rfl) ?_
          refine r_get (C := RX1) (T := TX1) (N := 8) hx hb hts i_X5_told_X1 hown hK (f_lw _ (vp_lt (hasLaw_in h_1))).1 rfl 3 (by decide) k_X5_told_fieldLink_121 rfl rfl dX5_told_63 ?_
          exact ro_iret hx hb hr hlocks dX5_told_66 (by (try unfold s_told); (repeat rw [if_pos h_1]); (repeat rw [if_neg h_2]); (repeat rw [if_neg h_3]); (repeat rw [if_pos h_4]); first | done | rfl)
        · refine lv_tableOut (tgt := 67) hx hb dX5_told_24 (by have z0 := lv_neT h_2 (a := 0) rfl; have z1 := lv_neT h_3 (a := 1) rfl; have z2 := lv_neT h_4 (a := 2) rfl; omega) (by decide) ?_
          refine lv_iload_n hx hb dX5_told_67 rfl (lv_at hl 3 rfl) ?_
          refine lv_bipush (v := 10) hx hb dX5_told_68 (by decide +kernel) ?_
          refine lv_isub hx hb dX5_told_70 ?_
          refine ro_call (va_runS (As := [.int (what - 10)]) (rest := []) hC (c_X5_isStuff l G (what - 10)) (va_cwS 1 hts gX5_told_X5_isStuff rfl rfl rfl kd_X5_isStuff ⟨Nat.le_of_ble_eq_true rfl, Nat.le_of_ble_eq_true rfl⟩) (ro_preS hK trivial) rfl rfl hl.1 rfl (lv_room (Nat.le_of_ble_eq_true rfl)) dX5_told_71 ⟨Nat.zero_le _, Nat.zero_le _⟩) ?_
          refine join_at (nL := 4) 90 [(3, .ref (ad (10 + 5 * law.toNatClampNeg))), (0, .ref (AD 0)), (1, .int law), (2, .int what)] [.int (if (f_isStuff (what - 10)) = true then (lFrom (wLw wd law.toNatClampNeg)) (what - 10).toNatClampNeg else (-1))] (fun ls hl => ?_) (fun J_5 => ?_)
          · exact ro_iret hx hb hr hlocks dX5_told_90 (by (try unfold s_told); (repeat rw [if_pos h_1]); (repeat rw [if_neg h_2]); (repeat rw [if_neg h_3]); (repeat rw [if_neg h_4]); first | done | rfl)
          · refine bz_eq (tgt := 89) hx hb dX5_told_74 (by decide) (fun h_6 => ?_) (fun h_6 => ?_)
            · refine lv_iconst (v := (-1)) hx hb dX5_told_89 (by decide) ?_
              have hJ := J_5; (repeat rw [if_neg h_6] at hJ)
              first | exact hJ ls (lv_sub hl [0, 1, 2, 3] rfl) | ((repeat rw [if_neg h_6] at hl); (repeat rw [if_neg h_6]); exact hJ ls (lv_sub hl [0, 1, 2, 3] rfl))
            · refine lv_aload_n hx hb dX5_told_77 rfl (lv_at hl 0 rfl) ?_
              refine r_get (C := RX1) (T := TX1) (N := 8) hx hb hts i_X5_told_X1 hown hK (f_lw _ (vp_lt (hasLaw_in h_1))).1 rfl 4 (by decide) k_X5_told_fieldLink_124 rfl rfl dX5_told_78 ?_
              refine lv_iload_n hx hb dX5_told_81 rfl (lv_at hl 3 rfl) ?_
              refine lv_bipush (v := 10) hx hb dX5_told_82 (by decide +kernel) ?_
              refine lv_isub hx hb dX5_told_84 ?_
              refine r_iald hx hb hK (f_lw _ (vp_lt (hasLaw_in h_1))).2.1 (isStuff_in h_6) dX5_told_85 ?_
              refine lv_goto (tgt := 90) hx hb dX5_told_86 (by decide) ?_
              have hJ := J_5; (repeat rw [if_pos h_6] at hJ)
              first | exact hJ ls (lv_sub hl [0, 1, 2, 3] rfl) | ((repeat rw [if_pos h_6] at hl); (repeat rw [if_pos h_6]); exact hJ ls (lv_sub hl [0, 1, 2, 3] rfl))
  · refine lv_iconst (v := (-1)) hx hb dX5_told_11 (by decide) ?_
    exact ro_iret hx hb hr hlocks dX5_told_12 (by (try unfold s_told); (repeat rw [if_neg h_1]); first | done | rfl)
theorem i_X5_keeps_X5 : ∀ w ∈ wsX50, w ∈ wsX5_keeps := fun _ h => List.mem_cons_of_mem _ (List.mem_append_left _ (List.mem_append_left _ (List.mem_append_left _ (List.mem_append_right _ h))))
theorem k_X5_keeps_fieldLink_14 : Cond.fieldLink RX5 14 "SameWater" "now" "LSameWater$World;" ∈ wsX5_keeps := by decide +kernel
theorem i_X5_keeps_X4 : ∀ w ∈ wsX40, w ∈ wsX5_keeps := fun _ h => List.mem_cons_of_mem _ (List.mem_append_left _ (List.mem_append_left _ (List.mem_append_right _ h)))
theorem k_X5_keeps_fieldLink_28 : Cond.fieldLink RX5 28 "SameWater$World" "children" "LSameWater$Rows;" ∈ wsX5_keeps := by decide +kernel
theorem k_X5_keeps_fieldLink_96 : Cond.fieldLink RX5 96 "SameWater$World" "laws" "[LSameWater$Law;" ∈ wsX5_keeps := by decide +kernel
def s_keeps (wd : WT) (law : Int32) (child : Int32) (stuff : Int32) : Int32 := if (w_hasLaw wd law) = true then if (f_has (wCh wd) child) = true then if (f_isStuff stuff) = true then ((w_keptAt wd law.toNatClampNeg child (f_at 5 (wCh wd) child 0)) >>> (stuff &&& 31)) &&& 1 else (-1) else (-1) else (-1)
set_option maxHeartbeats 4000000 in
set_option maxRecDepth 100000 in
theorem c_X5_keeps (l : Launch) (G : GG) (AD ad td : Nat → Nat) (wd wt : WT) (tk : Bool) (rn : Int32) (bo : Nat → Int32) (law : Int32) (child : Int32) (stuff : Int32)  : Met l yX5_keeps wsX5_keeps { frames := 2, cells := 0, slots := 0, locals := 48 } (roP G [.ref (AD 0), .int law, .int child, .int stuff] (fun H => CAt G AD ad td wd wt tk rn bo H)) (roQ (some (.int (s_keeps wd law child stuff)))) 0 0 nF := by
  refine Met.ofW (cc := cX5_keeps) (maxL := 4) (ret := (some .int)) (by decide) rfl ?_
  intro p e s m args below meth c s₁ Bd hml hv
  obtain ⟨rfl, hK, hB⟩ := hv
  have hx := Bd.exec
  have hb := Bd.bytes
  have hr := Bd.returns
  have hts := atoms_spec (ws := wsX5_keeps) Bd.pre
  have hown : s.vm.findClass RX5 = some m.cls := findClass_of_methodNamed Bd.named
  have hlocks := Bd.notSynchronized
  have hC : CallFix p m c cX5_keeps 4 s _ wsX5_keeps RX5 := ⟨hx, hb, hml, hown, hts⟩
  have hl := lv_entry ([.ref (AD 0), .int law, .int child, .int stuff]) (n := 4) (Nat.le_of_ble_eq_true rfl)
  rw [lg_entry_eq]
  generalize (lg_sl ([.ref (AD 0), .int law, .int child, .int stuff]) ++ List.replicate (4 - (lg_sl ([.ref (AD 0), .int law, .int child, .int stuff])).length) Slot.unset).toArray = ls at hl ⊢
  have hl : lv_has ls 4 [(0, .ref (AD 0)), (1, .int law), (2, .int child), (3, .int stuff)] := hl
  have f_s := hB
  obtain ⟨f_c, hW, f_t, f_a, f_b⟩ := hB
  obtain ⟨f_o, f_ch, f_as, f_an, f_tp, ⟨qf, f_q, hqf⟩, f_lw, hlc⟩ := id hW
  refine lv_aload_n hx hb dX5_keeps_0 rfl (lv_at hl 0 rfl) ?_
  refine r_get (C := RX5) (T := TX5) (N := 4) hx hb hts i_X5_keeps_X5 hown hK f_c rfl 0 (by decide) k_X5_keeps_fieldLink_14 rfl rfl dX5_keeps_1 ?_
  refine lv_iload_n hx hb dX5_keeps_4 rfl (lv_at hl 1 rfl) ?_
  refine ro_call (va_runV (As := [.int law]) (rest := []) hC (c_X4_hasLaw l G ad wd law) (cwV 1 hts gX5_keeps_X4_hasLaw rfl rfl rfl kd_X4_hasLaw ⟨Nat.le_of_ble_eq_true rfl, Nat.le_of_ble_eq_true rfl⟩) (ro_preV hK f_o rfl hW) rfl rfl hl.1 rfl (lv_room (Nat.le_of_ble_eq_true rfl)) dX5_keeps_5 ⟨Nat.zero_le _, Nat.zero_le _⟩) ?_
  refine bz_eq (tgt := 32) hx hb dX5_keeps_8 (by decide) (fun h_1 => ?_) (fun h_1 => ?_)
  · refine lv_iconst (v := (-1)) hx hb dX5_keeps_32 (by decide) ?_
    exact ro_iret hx hb hr hlocks dX5_keeps_33 (by (try unfold s_keeps); (repeat rw [if_neg h_1]); first | done | rfl)
  · refine lv_aload_n hx hb dX5_keeps_11 rfl (lv_at hl 0 rfl) ?_
    refine r_get (C := RX5) (T := TX5) (N := 4) hx hb hts i_X5_keeps_X5 hown hK f_c rfl 0 (by decide) k_X5_keeps_fieldLink_14 rfl rfl dX5_keeps_12 ?_
    refine r_get (C := RX4) (T := TX4) (N := 6) hx hb hts i_X5_keeps_X4 hown hK f_o rfl 0 (by decide) k_X5_keeps_fieldLink_28 rfl rfl dX5_keeps_15 ?_
    refine lv_iload_n hx hb dX5_keeps_18 rfl (lv_at hl 2 rfl) ?_
    refine ro_call (va_runV (As := [.int child]) (rest := []) hC (c_X2_has l G (ad 1) (ad 2) 8 5 (wCh wd) child) (cwV 1 hts gX5_keeps_X2_has rfl rfl rfl kd_X2_has ⟨Nat.le_of_ble_eq_true rfl, Nat.le_of_ble_eq_true rfl⟩) (ro_preV hK f_ch.1 rfl f_ch) rfl rfl hl.1 rfl (lv_room (Nat.le_of_ble_eq_true rfl)) dX5_keeps_19 ⟨Nat.zero_le _, Nat.zero_le _⟩) ?_
    refine bz_eq (tgt := 32) hx hb dX5_keeps_22 (by decide) (fun h_2 => ?_) (fun h_2 => ?_)
    · refine lv_iconst (v := (-1)) hx hb dX5_keeps_32 (by decide) ?_
      exact ro_iret hx hb hr hlocks dX5_keeps_33 (by (try unfold s_keeps); (repeat rw [if_pos h_1]); (repeat rw [if_neg h_2]); first | done | rfl)
    · refine lv_iload_n hx hb dX5_keeps_25 rfl (lv_at hl 3 rfl) ?_
      refine ro_call (va_runS (As := [.int stuff]) (rest := []) hC (c_X5_isStuff l G stuff) (va_cwS 1 hts gX5_keeps_X5_isStuff rfl rfl rfl kd_X5_isStuff ⟨Nat.le_of_ble_eq_true rfl, Nat.le_of_ble_eq_true rfl⟩) (ro_preS hK trivial) rfl rfl hl.1 rfl (lv_room (Nat.le_of_ble_eq_true rfl)) dX5_keeps_26 ⟨Nat.zero_le _, Nat.zero_le _⟩) ?_
      refine bz_ne (tgt := 34) hx hb dX5_keeps_29 (by decide) (fun h_3 => ?_) (fun h_3 => ?_)
      · refine lv_aload_n hx hb dX5_keeps_34 rfl (lv_at hl 0 rfl) ?_
        refine r_get (C := RX5) (T := TX5) (N := 4) hx hb hts i_X5_keeps_X5 hown hK f_c rfl 0 (by decide) k_X5_keeps_fieldLink_14 rfl rfl dX5_keeps_35 ?_
        refine lv_aload_n hx hb dX5_keeps_38 rfl (lv_at hl 0 rfl) ?_
        refine r_get (C := RX5) (T := TX5) (N := 4) hx hb hts i_X5_keeps_X5 hown hK f_c rfl 0 (by decide) k_X5_keeps_fieldLink_14 rfl rfl dX5_keeps_39 ?_
        refine r_get (C := RX4) (T := TX4) (N := 6) hx hb hts i_X5_keeps_X4 hown hK f_o rfl 4 (by decide) k_X5_keeps_fieldLink_96 rfl rfl dX5_keeps_42 ?_
        refine lv_iload_n hx hb dX5_keeps_45 rfl (lv_at hl 1 rfl) ?_
        refine r_qald hx hb hK f_q (hasLaw_in h_1) (hqf _ (vp_lt (hasLaw_in h_1))) dX5_keeps_46 ?_
        refine lv_iload_n hx hb dX5_keeps_47 rfl (lv_at hl 2 rfl) ?_
        refine lv_aload_n hx hb dX5_keeps_48 rfl (lv_at hl 0 rfl) ?_
        refine r_get (C := RX5) (T := TX5) (N := 4) hx hb hts i_X5_keeps_X5 hown hK f_c rfl 0 (by decide) k_X5_keeps_fieldLink_14 rfl rfl dX5_keeps_49 ?_
        refine r_get (C := RX4) (T := TX4) (N := 6) hx hb hts i_X5_keeps_X4 hown hK f_o rfl 0 (by decide) k_X5_keeps_fieldLink_28 rfl rfl dX5_keeps_52 ?_
        refine lv_iload_n hx hb dX5_keeps_55 rfl (lv_at hl 2 rfl) ?_
        refine lv_iconst (v := 0) hx hb dX5_keeps_56 (by decide) ?_
        refine ro_call (va_runV (As := [.int child, .int 0]) (rest := [.int child, .ref (ad (10 + 5 * law.toNatClampNeg)), .ref (ad 0)]) hC (c_X2_at l G (ad 1) (ad 2) 8 5 (wCh wd) child 0) (cwV 2 hts gX5_keeps_X2_at rfl rfl rfl kd_X2_at ⟨Nat.le_of_ble_eq_true rfl, Nat.le_of_ble_eq_true rfl⟩) (ro_preV hK f_ch.1 rfl f_ch) rfl rfl hl.1 rfl (lv_room (Nat.le_of_ble_eq_true rfl)) dX5_keeps_57 ⟨Nat.zero_le _, Nat.zero_le _⟩) ?_
        refine ro_call (va_runV (As := [.ref (ad (10 + 5 * law.toNatClampNeg)), .int child, .int (f_at 5 (wCh wd) child 0)]) (rest := []) hC (c_X4_keptAt l G ad wd law.toNatClampNeg child (f_at 5 (wCh wd) child 0) (vp_lt (hasLaw_in h_1))) (cwV 3 hts gX5_keeps_X4_keptAt rfl rfl rfl kd_X4_keptAt ⟨Nat.le_of_ble_eq_true rfl, Nat.le_of_ble_eq_true rfl⟩) (ro_preV hK f_o rfl hW) rfl rfl hl.1 rfl (lv_room (Nat.le_of_ble_eq_true rfl)) dX5_keeps_60 ⟨Nat.zero_le _, Nat.zero_le _⟩) ?_
        refine lv_iload_n hx hb dX5_keeps_63 rfl (lv_at hl 3 rfl) ?_
        refine lv_ishr hx hb dX5_keeps_64 ?_
        refine lv_iconst (v := 1) hx hb dX5_keeps_65 (by decide) ?_
        refine lv_iand hx hb dX5_keeps_66 ?_
        exact ro_iret hx hb hr hlocks dX5_keeps_67 (by (try unfold s_keeps); (repeat rw [if_pos h_1]); (repeat rw [if_pos h_2]); (repeat rw [if_pos h_3]); first | done | rfl)
      · refine lv_iconst (v := (-1)) hx hb dX5_keeps_32 (by decide) ?_
        exact ro_iret hx hb hr hlocks dX5_keeps_33 (by (try unfold s_keeps); (repeat rw [if_pos h_1]); (repeat rw [if_pos h_2]); (repeat rw [if_neg h_3]); first | done | rfl)
theorem i_X5_tells_X5 : ∀ w ∈ wsX50, w ∈ wsX5_tells := fun _ h => List.mem_cons_of_mem _ (List.mem_append_left _ (List.mem_append_left _ (List.mem_append_left _ (List.mem_append_right _ h))))
theorem k_X5_tells_fieldLink_14 : Cond.fieldLink RX5 14 "SameWater" "now" "LSameWater$World;" ∈ wsX5_tells := by decide +kernel
theorem i_X5_tells_X4 : ∀ w ∈ wsX40, w ∈ wsX5_tells := fun _ h => List.mem_cons_of_mem _ (List.mem_append_left _ (List.mem_append_left _ (List.mem_append_right _ h)))
theorem k_X5_tells_fieldLink_28 : Cond.fieldLink RX5 28 "SameWater$World" "children" "LSameWater$Rows;" ∈ wsX5_tells := by decide +kernel
theorem k_X5_tells_fieldLink_61 : Cond.fieldLink RX5 61 "SameWater$World" "askings" "LSameWater$Rows;" ∈ wsX5_tells := by decide +kernel
def s_tells (wd : WT) (law : Int32) (child : Int32) (asking : Int32) : Int32 := if (w_hasLaw wd law) = true then if (f_has (wCh wd) child) = true then if (f_has (wAs wd) asking) = true then w_toldNow wd law child asking else (-1) else (-1) else (-1)
set_option maxHeartbeats 4000000 in
set_option maxRecDepth 100000 in
theorem c_X5_tells (l : Launch) (G : GG) (AD ad td : Nat → Nat) (wd wt : WT) (tk : Bool) (rn : Int32) (bo : Nat → Int32) (law : Int32) (child : Int32) (asking : Int32)  : Met l yX5_tells wsX5_tells { frames := 5, cells := 0, slots := 0, locals := 140 } (roP G [.ref (AD 0), .int law, .int child, .int asking] (fun H => CAt G AD ad td wd wt tk rn bo H)) (roQ (some (.int (s_tells wd law child asking)))) 0 0 nF := by
  refine Met.ofW (cc := cX5_tells) (maxL := 4) (ret := (some .int)) (by decide) rfl ?_
  intro p e s m args below meth c s₁ Bd hml hv
  obtain ⟨rfl, hK, hB⟩ := hv
  have hx := Bd.exec
  have hb := Bd.bytes
  have hr := Bd.returns
  have hts := atoms_spec (ws := wsX5_tells) Bd.pre
  have hown : s.vm.findClass RX5 = some m.cls := findClass_of_methodNamed Bd.named
  have hlocks := Bd.notSynchronized
  have hC : CallFix p m c cX5_tells 4 s _ wsX5_tells RX5 := ⟨hx, hb, hml, hown, hts⟩
  have hl := lv_entry ([.ref (AD 0), .int law, .int child, .int asking]) (n := 4) (Nat.le_of_ble_eq_true rfl)
  rw [lg_entry_eq]
  generalize (lg_sl ([.ref (AD 0), .int law, .int child, .int asking]) ++ List.replicate (4 - (lg_sl ([.ref (AD 0), .int law, .int child, .int asking])).length) Slot.unset).toArray = ls at hl ⊢
  have hl : lv_has ls 4 [(0, .ref (AD 0)), (1, .int law), (2, .int child), (3, .int asking)] := hl
  have f_s := hB
  obtain ⟨f_c, hW, f_t, f_a, f_b⟩ := hB
  obtain ⟨f_o, f_ch, f_as, f_an, f_tp, ⟨qf, f_q, hqf⟩, f_lw, hlc⟩ := id hW
  refine lv_aload_n hx hb dX5_tells_0 rfl (lv_at hl 0 rfl) ?_
  refine r_get (C := RX5) (T := TX5) (N := 4) hx hb hts i_X5_tells_X5 hown hK f_c rfl 0 (by decide) k_X5_tells_fieldLink_14 rfl rfl dX5_tells_1 ?_
  refine lv_iload_n hx hb dX5_tells_4 rfl (lv_at hl 1 rfl) ?_
  refine ro_call (va_runV (As := [.int law]) (rest := []) hC (c_X4_hasLaw l G ad wd law) (cwV 1 hts gX5_tells_X4_hasLaw rfl rfl rfl kd_X4_hasLaw ⟨Nat.le_of_ble_eq_true rfl, Nat.le_of_ble_eq_true rfl⟩) (ro_preV hK f_o rfl hW) rfl rfl hl.1 rfl (lv_room (Nat.le_of_ble_eq_true rfl)) dX5_tells_5 ⟨Nat.zero_le _, Nat.zero_le _⟩) ?_
  refine bz_eq (tgt := 39) hx hb dX5_tells_8 (by decide) (fun h_1 => ?_) (fun h_1 => ?_)
  · refine lv_iconst (v := (-1)) hx hb dX5_tells_39 (by decide) ?_
    exact ro_iret hx hb hr hlocks dX5_tells_40 (by (try unfold s_tells); (repeat rw [if_neg h_1]); first | done | rfl)
  · refine lv_aload_n hx hb dX5_tells_11 rfl (lv_at hl 0 rfl) ?_
    refine r_get (C := RX5) (T := TX5) (N := 4) hx hb hts i_X5_tells_X5 hown hK f_c rfl 0 (by decide) k_X5_tells_fieldLink_14 rfl rfl dX5_tells_12 ?_
    refine r_get (C := RX4) (T := TX4) (N := 6) hx hb hts i_X5_tells_X4 hown hK f_o rfl 0 (by decide) k_X5_tells_fieldLink_28 rfl rfl dX5_tells_15 ?_
    refine lv_iload_n hx hb dX5_tells_18 rfl (lv_at hl 2 rfl) ?_
    refine ro_call (va_runV (As := [.int child]) (rest := []) hC (c_X2_has l G (ad 1) (ad 2) 8 5 (wCh wd) child) (cwV 1 hts gX5_tells_X2_has rfl rfl rfl kd_X2_has ⟨Nat.le_of_ble_eq_true rfl, Nat.le_of_ble_eq_true rfl⟩) (ro_preV hK f_ch.1 rfl f_ch) rfl rfl hl.1 rfl (lv_room (Nat.le_of_ble_eq_true rfl)) dX5_tells_19 ⟨Nat.zero_le _, Nat.zero_le _⟩) ?_
    refine bz_eq (tgt := 39) hx hb dX5_tells_22 (by decide) (fun h_2 => ?_) (fun h_2 => ?_)
    · refine lv_iconst (v := (-1)) hx hb dX5_tells_39 (by decide) ?_
      exact ro_iret hx hb hr hlocks dX5_tells_40 (by (try unfold s_tells); (repeat rw [if_pos h_1]); (repeat rw [if_neg h_2]); first | done | rfl)
    · refine lv_aload_n hx hb dX5_tells_25 rfl (lv_at hl 0 rfl) ?_
      refine r_get (C := RX5) (T := TX5) (N := 4) hx hb hts i_X5_tells_X5 hown hK f_c rfl 0 (by decide) k_X5_tells_fieldLink_14 rfl rfl dX5_tells_26 ?_
      refine r_get (C := RX4) (T := TX4) (N := 6) hx hb hts i_X5_tells_X4 hown hK f_o rfl 1 (by decide) k_X5_tells_fieldLink_61 rfl rfl dX5_tells_29 ?_
      refine lv_iload_n hx hb dX5_tells_32 rfl (lv_at hl 3 rfl) ?_
      refine ro_call (va_runV (As := [.int asking]) (rest := []) hC (c_X2_has l G (ad 3) (ad 4) 16 7 (wAs wd) asking) (cwV 1 hts gX5_tells_X2_has rfl rfl rfl kd_X2_has ⟨Nat.le_of_ble_eq_true rfl, Nat.le_of_ble_eq_true rfl⟩) (ro_preV hK f_as.1 rfl f_as) rfl rfl hl.1 rfl (lv_room (Nat.le_of_ble_eq_true rfl)) dX5_tells_33 ⟨Nat.zero_le _, Nat.zero_le _⟩) ?_
      refine bz_ne (tgt := 41) hx hb dX5_tells_36 (by decide) (fun h_3 => ?_) (fun h_3 => ?_)
      · refine lv_aload_n hx hb dX5_tells_41 rfl (lv_at hl 0 rfl) ?_
        refine r_get (C := RX5) (T := TX5) (N := 4) hx hb hts i_X5_tells_X5 hown hK f_c rfl 0 (by decide) k_X5_tells_fieldLink_14 rfl rfl dX5_tells_42 ?_
        refine lv_iload_n hx hb dX5_tells_45 rfl (lv_at hl 1 rfl) ?_
        refine lv_iload_n hx hb dX5_tells_46 rfl (lv_at hl 2 rfl) ?_
        refine lv_iload_n hx hb dX5_tells_47 rfl (lv_at hl 3 rfl) ?_
        refine ro_call (va_runV (As := [.int law, .int child, .int asking]) (rest := []) hC (c_X4_toldNow l G ad wd law child asking) (cwV 3 hts gX5_tells_X4_toldNow rfl rfl rfl kd_X4_toldNow ⟨Nat.le_of_ble_eq_true rfl, Nat.le_of_ble_eq_true rfl⟩) (ro_preV hK f_o rfl hW) rfl rfl hl.1 rfl (lv_room (Nat.le_of_ble_eq_true rfl)) dX5_tells_48 ⟨Nat.zero_le _, Nat.zero_le _⟩) ?_
        exact ro_iret hx hb hr hlocks dX5_tells_51 (by (try unfold s_tells); (repeat rw [if_pos h_1]); (repeat rw [if_pos h_2]); (repeat rw [if_pos h_3]); first | done | rfl)
      · refine lv_iconst (v := (-1)) hx hb dX5_tells_39 (by decide) ?_
        exact ro_iret hx hb hr hlocks dX5_tells_40 (by (try unfold s_tells); (repeat rw [if_pos h_1]); (repeat rw [if_pos h_2]); (repeat rw [if_neg h_3]); first | done | rfl)
theorem i_X5_chance_X5 : ∀ w ∈ wsX50, w ∈ wsX5_chance := fun _ h => List.mem_cons_of_mem _ (List.mem_append_left _ (List.mem_append_left _ (List.mem_append_left _ (List.mem_append_right _ h))))
theorem k_X5_chance_fieldLink_14 : Cond.fieldLink RX5 14 "SameWater" "now" "LSameWater$World;" ∈ wsX5_chance := by decide +kernel
theorem k_X5_chance_constantLong_139 : Cond.constantLong RX5 139 (-9223372036854775808) ∈ wsX5_chance := by decide +kernel
theorem i_X5_chance_X4 : ∀ w ∈ wsX40, w ∈ wsX5_chance := fun _ h => List.mem_cons_of_mem _ (List.mem_append_left _ (List.mem_append_left _ (List.mem_append_right _ h)))
theorem k_X5_chance_fieldLink_72 : Cond.fieldLink RX5 72 "SameWater$World" "answers" "LSameWater$Rows;" ∈ wsX5_chance := by decide +kernel
theorem k_X5_chance_constantLong_144 : Cond.constantLong RX5 144 (200) ∈ wsX5_chance := by decide +kernel
theorem kd_X5_isPart : yX5_isPart.cls ≠ "java/lang/invoke/MethodHandle" ∧ yX5_isPart.cls ≠ "java/lang/invoke/VarHandle" ∧ (parseMethodDescriptor yX5_isPart.desc).map (fun d => d.parameters.length) = some 1 := by decide +kernel
def s_chance (wd : WT) (law : Int32) (answer : Int32) (part : Int32) : Int64 := if (w_hasLaw wd law) = true then if (f_has (wAn wd) answer) = true then if (f_isPart part) = true then f_lowest ((w_chanceOf200 wd law answer : Int32).toInt64) 200 part else (-9223372036854775808) else (-9223372036854775808) else (-9223372036854775808)
set_option maxHeartbeats 4000000 in
set_option maxRecDepth 100000 in
theorem c_X5_chance (l : Launch) (G : GG) (AD ad td : Nat → Nat) (wd wt : WT) (tk : Bool) (rn : Int32) (bo : Nat → Int32) (law : Int32) (answer : Int32) (part : Int32)  : Met l yX5_chance wsX5_chance { frames := 6, cells := 0, slots := 0, locals := 163 } (roP G [.ref (AD 0), .int law, .int answer, .int part] (fun H => CAt G AD ad td wd wt tk rn bo H)) (roQ (some (.long (s_chance wd law answer part)))) 0 0 nF := by
  refine Met.ofW (cc := cX5_chance) (maxL := 4) (ret := (some .long)) (by decide) rfl ?_
  intro p e s m args below meth c s₁ Bd hml hv
  obtain ⟨rfl, hK, hB⟩ := hv
  have hx := Bd.exec
  have hb := Bd.bytes
  have hr := Bd.returns
  have hts := atoms_spec (ws := wsX5_chance) Bd.pre
  have hown : s.vm.findClass RX5 = some m.cls := findClass_of_methodNamed Bd.named
  have hlocks := Bd.notSynchronized
  have hC : CallFix p m c cX5_chance 4 s _ wsX5_chance RX5 := ⟨hx, hb, hml, hown, hts⟩
  have hl := lv_entry ([.ref (AD 0), .int law, .int answer, .int part]) (n := 4) (Nat.le_of_ble_eq_true rfl)
  rw [lg_entry_eq]
  generalize (lg_sl ([.ref (AD 0), .int law, .int answer, .int part]) ++ List.replicate (4 - (lg_sl ([.ref (AD 0), .int law, .int answer, .int part])).length) Slot.unset).toArray = ls at hl ⊢
  have hl : lv_has ls 4 [(0, .ref (AD 0)), (1, .int law), (2, .int answer), (3, .int part)] := hl
  have f_s := hB
  obtain ⟨f_c, hW, f_t, f_a, f_b⟩ := hB
  obtain ⟨f_o, f_ch, f_as, f_an, f_tp, ⟨qf, f_q, hqf⟩, f_lw, hlc⟩ := id hW
  refine lv_aload_n hx hb dX5_chance_0 rfl (lv_at hl 0 rfl) ?_
  refine r_get (C := RX5) (T := TX5) (N := 4) hx hb hts i_X5_chance_X5 hown hK f_c rfl 0 (by decide) k_X5_chance_fieldLink_14 rfl rfl dX5_chance_1 ?_
  refine lv_iload_n hx hb dX5_chance_4 rfl (lv_at hl 1 rfl) ?_
  refine ro_call (va_runV (As := [.int law]) (rest := []) hC (c_X4_hasLaw l G ad wd law) (cwV 1 hts gX5_chance_X4_hasLaw rfl rfl rfl kd_X4_hasLaw ⟨Nat.le_of_ble_eq_true rfl, Nat.le_of_ble_eq_true rfl⟩) (ro_preV hK f_o rfl hW) rfl rfl hl.1 rfl (lv_room (Nat.le_of_ble_eq_true rfl)) dX5_chance_5 ⟨Nat.zero_le _, Nat.zero_le _⟩) ?_
  refine bz_eq (tgt := 32) hx hb dX5_chance_8 (by decide) (fun h_1 => ?_) (fun h_1 => ?_)
  · refine lv_ldc2 (v := (-9223372036854775808)) hx hb hown (hts _ k_X5_chance_constantLong_139) dX5_chance_32 ?_
    exact ro_lret hx hb hr hlocks dX5_chance_35 (by (try unfold s_chance); (repeat rw [if_neg h_1]); first | done | rfl)
  · refine lv_aload_n hx hb dX5_chance_11 rfl (lv_at hl 0 rfl) ?_
    refine r_get (C := RX5) (T := TX5) (N := 4) hx hb hts i_X5_chance_X5 hown hK f_c rfl 0 (by decide) k_X5_chance_fieldLink_14 rfl rfl dX5_chance_12 ?_
    refine r_get (C := RX4) (T := TX4) (N := 6) hx hb hts i_X5_chance_X4 hown hK f_o rfl 2 (by decide) k_X5_chance_fieldLink_72 rfl rfl dX5_chance_15 ?_
    refine lv_iload_n hx hb dX5_chance_18 rfl (lv_at hl 2 rfl) ?_
    refine ro_call (va_runV (As := [.int answer]) (rest := []) hC (c_X2_has l G (ad 5) (ad 6) 40 5 (wAn wd) answer) (cwV 1 hts gX5_chance_X2_has rfl rfl rfl kd_X2_has ⟨Nat.le_of_ble_eq_true rfl, Nat.le_of_ble_eq_true rfl⟩) (ro_preV hK f_an.1 rfl f_an) rfl rfl hl.1 rfl (lv_room (Nat.le_of_ble_eq_true rfl)) dX5_chance_19 ⟨Nat.zero_le _, Nat.zero_le _⟩) ?_
    refine bz_eq (tgt := 32) hx hb dX5_chance_22 (by decide) (fun h_2 => ?_) (fun h_2 => ?_)
    · refine lv_ldc2 (v := (-9223372036854775808)) hx hb hown (hts _ k_X5_chance_constantLong_139) dX5_chance_32 ?_
      exact ro_lret hx hb hr hlocks dX5_chance_35 (by (try unfold s_chance); (repeat rw [if_pos h_1]); (repeat rw [if_neg h_2]); first | done | rfl)
    · refine lv_iload_n hx hb dX5_chance_25 rfl (lv_at hl 3 rfl) ?_
      refine ro_call (va_runS (As := [.int part]) (rest := []) hC (c_X5_isPart l G part) (va_cwS 1 hts gX5_chance_X5_isPart rfl rfl rfl kd_X5_isPart ⟨Nat.le_of_ble_eq_true rfl, Nat.le_of_ble_eq_true rfl⟩) (ro_preS hK trivial) rfl rfl hl.1 rfl (lv_room (Nat.le_of_ble_eq_true rfl)) dX5_chance_26 ⟨Nat.zero_le _, Nat.zero_le _⟩) ?_
      refine bz_ne (tgt := 36) hx hb dX5_chance_29 (by decide) (fun h_3 => ?_) (fun h_3 => ?_)
      · refine lv_aload_n hx hb dX5_chance_36 rfl (lv_at hl 0 rfl) ?_
        refine r_get (C := RX5) (T := TX5) (N := 4) hx hb hts i_X5_chance_X5 hown hK f_c rfl 0 (by decide) k_X5_chance_fieldLink_14 rfl rfl dX5_chance_37 ?_
        refine lv_iload_n hx hb dX5_chance_40 rfl (lv_at hl 1 rfl) ?_
        refine lv_iload_n hx hb dX5_chance_41 rfl (lv_at hl 2 rfl) ?_
        refine ro_call (va_runV (As := [.int law, .int answer]) (rest := []) hC (c_X4_chanceOf200 l G ad wd law answer) (cwV 2 hts gX5_chance_X4_chanceOf200 rfl rfl rfl kd_X4_chanceOf200 ⟨Nat.le_of_ble_eq_true rfl, Nat.le_of_ble_eq_true rfl⟩) (ro_preV hK f_o rfl hW) rfl rfl hl.1 rfl (lv_room (Nat.le_of_ble_eq_true rfl)) dX5_chance_42 ⟨Nat.zero_le _, Nat.zero_le _⟩) ?_
        refine lv_i2l (v := (w_chanceOf200 wd law answer : Int32).toInt64) hx hb dX5_chance_45 rfl ?_
        refine lv_ldc2 (v := 200) hx hb hown (hts _ k_X5_chance_constantLong_144) dX5_chance_46 ?_
        refine lv_iload_n hx hb dX5_chance_49 rfl (lv_at hl 3 rfl) ?_
        refine ro_call (va_runS (As := [.long ((w_chanceOf200 wd law answer : Int32).toInt64), .long 200, .int part]) (rest := []) hC (c_X5_lowest l G ((w_chanceOf200 wd law answer : Int32).toInt64) 200 part) (va_cwS 3 hts gX5_chance_X5_lowest rfl rfl rfl kd_X5_lowest ⟨Nat.le_of_ble_eq_true rfl, Nat.le_of_ble_eq_true rfl⟩) (ro_preS hK trivial) rfl rfl hl.1 rfl (lv_room (Nat.le_of_ble_eq_true rfl)) dX5_chance_50 ⟨Nat.zero_le _, Nat.zero_le _⟩) ?_
        exact ro_lret hx hb hr hlocks dX5_chance_53 (by (try unfold s_chance); (repeat rw [if_pos h_1]); (repeat rw [if_pos h_2]); (repeat rw [if_pos h_3]); first | done | rfl)
      · refine lv_ldc2 (v := (-9223372036854775808)) hx hb hown (hts _ k_X5_chance_constantLong_139) dX5_chance_32 ?_
        exact ro_lret hx hb hr hlocks dX5_chance_35 (by (try unfold s_chance); (repeat rw [if_pos h_1]); (repeat rw [if_pos h_2]); (repeat rw [if_neg h_3]); first | done | rfl)
theorem i_X5_cannot_X5 : ∀ w ∈ wsX50, w ∈ wsX5_cannot := fun _ h => List.mem_cons_of_mem _ (List.mem_append_left _ (List.mem_append_left _ (List.mem_append_left _ (List.mem_append_right _ h))))
theorem k_X5_cannot_fieldLink_14 : Cond.fieldLink RX5 14 "SameWater" "now" "LSameWater$World;" ∈ wsX5_cannot := by decide +kernel
theorem kd_X4_firstImpossible : yX4_firstImpossible.cls = RX4 ∧ yX4_firstImpossible.cls ≠ "java/lang/invoke/MethodHandle" ∧ yX4_firstImpossible.cls ≠ "java/lang/invoke/VarHandle" ∧ (parseMethodDescriptor yX4_firstImpossible.desc).map (fun d => d.parameters.length) = some 1 := by decide +kernel
def s_cannot (wd : WT) (law : Int32) : Int32 := if (w_hasLaw wd law) = true then w_firstImpossible wd law else (-1)
set_option maxHeartbeats 4000000 in
set_option maxRecDepth 100000 in
theorem c_X5_cannot (l : Launch) (G : GG) (AD ad td : Nat → Nat) (wd wt : WT) (tk : Bool) (rn : Int32) (bo : Nat → Int32) (law : Int32)  : Met l yX5_cannot wsX5_cannot { frames := 7, cells := 0, slots := 0, locals := 185 } (roP G [.ref (AD 0), .int law] (fun H => CAt G AD ad td wd wt tk rn bo H)) (roQ (some (.int (s_cannot wd law)))) 0 0 nF := by
  refine Met.ofW (cc := cX5_cannot) (maxL := 2) (ret := (some .int)) (by decide) rfl ?_
  intro p e s m args below meth c s₁ Bd hml hv
  obtain ⟨rfl, hK, hB⟩ := hv
  have hx := Bd.exec
  have hb := Bd.bytes
  have hr := Bd.returns
  have hts := atoms_spec (ws := wsX5_cannot) Bd.pre
  have hown : s.vm.findClass RX5 = some m.cls := findClass_of_methodNamed Bd.named
  have hlocks := Bd.notSynchronized
  have hC : CallFix p m c cX5_cannot 2 s _ wsX5_cannot RX5 := ⟨hx, hb, hml, hown, hts⟩
  have hl := lv_entry ([.ref (AD 0), .int law]) (n := 2) (Nat.le_of_ble_eq_true rfl)
  rw [lg_entry_eq]
  generalize (lg_sl ([.ref (AD 0), .int law]) ++ List.replicate (2 - (lg_sl ([.ref (AD 0), .int law])).length) Slot.unset).toArray = ls at hl ⊢
  have hl : lv_has ls 2 [(0, .ref (AD 0)), (1, .int law)] := hl
  have f_s := hB
  obtain ⟨f_c, hW, f_t, f_a, f_b⟩ := hB
  obtain ⟨f_o, f_ch, f_as, f_an, f_tp, ⟨qf, f_q, hqf⟩, f_lw, hlc⟩ := id hW
  refine lv_aload_n hx hb dX5_cannot_0 rfl (lv_at hl 0 rfl) ?_
  refine r_get (C := RX5) (T := TX5) (N := 4) hx hb hts i_X5_cannot_X5 hown hK f_c rfl 0 (by decide) k_X5_cannot_fieldLink_14 rfl rfl dX5_cannot_1 ?_
  refine lv_iload_n hx hb dX5_cannot_4 rfl (lv_at hl 1 rfl) ?_
  refine ro_call (va_runV (As := [.int law]) (rest := []) hC (c_X4_hasLaw l G ad wd law) (cwV 1 hts gX5_cannot_X4_hasLaw rfl rfl rfl kd_X4_hasLaw ⟨Nat.le_of_ble_eq_true rfl, Nat.le_of_ble_eq_true rfl⟩) (ro_preV hK f_o rfl hW) rfl rfl hl.1 rfl (lv_room (Nat.le_of_ble_eq_true rfl)) dX5_cannot_5 ⟨Nat.zero_le _, Nat.zero_le _⟩) ?_
  refine join_at (nL := 2) 23 [(0, .ref (AD 0)), (1, .int law)] [.int (if (w_hasLaw wd law) = true then w_firstImpossible wd law else (-1))] (fun ls hl => ?_) (fun J_1 => ?_)
  · exact ro_iret hx hb hr hlocks dX5_cannot_23 rfl
  · refine bz_eq (tgt := 22) hx hb dX5_cannot_8 (by decide) (fun h_2 => ?_) (fun h_2 => ?_)
    · refine lv_iconst (v := (-1)) hx hb dX5_cannot_22 (by decide) ?_
      have hJ := J_1; (repeat rw [if_neg h_2] at hJ)
      first | exact hJ ls (lv_sub hl [0, 1] rfl) | ((repeat rw [if_neg h_2] at hl); (repeat rw [if_neg h_2]); exact hJ ls (lv_sub hl [0, 1] rfl))
    · refine lv_aload_n hx hb dX5_cannot_11 rfl (lv_at hl 0 rfl) ?_
      refine r_get (C := RX5) (T := TX5) (N := 4) hx hb hts i_X5_cannot_X5 hown hK f_c rfl 0 (by decide) k_X5_cannot_fieldLink_14 rfl rfl dX5_cannot_12 ?_
      refine lv_iload_n hx hb dX5_cannot_15 rfl (lv_at hl 1 rfl) ?_
      refine ro_call (va_runV (As := [.int law]) (rest := []) hC (c_X4_firstImpossible l G ad wd law) (cwV 1 hts gX5_cannot_X4_firstImpossible rfl rfl rfl kd_X4_firstImpossible ⟨Nat.le_of_ble_eq_true rfl, Nat.le_of_ble_eq_true rfl⟩) (ro_preV hK f_o rfl hW) rfl rfl hl.1 rfl (lv_room (Nat.le_of_ble_eq_true rfl)) dX5_cannot_16 ⟨Nat.zero_le _, Nat.zero_le _⟩) ?_
      refine lv_goto (tgt := 23) hx hb dX5_cannot_19 (by decide) ?_
      have hJ := J_1; (repeat rw [if_pos h_2] at hJ)
      first | exact hJ ls (lv_sub hl [0, 1] rfl) | ((repeat rw [if_pos h_2] at hl); (repeat rw [if_pos h_2]); exact hJ ls (lv_sub hl [0, 1] rfl))
theorem i_X5_right_X5 : ∀ w ∈ wsX50, w ∈ wsX5_right := fun _ h => List.mem_cons_of_mem _ (List.mem_append_left _ (List.mem_append_left _ (List.mem_append_left _ (List.mem_append_right _ h))))
theorem k_X5_right_fieldLink_14 : Cond.fieldLink RX5 14 "SameWater" "now" "LSameWater$World;" ∈ wsX5_right := by decide +kernel
def s_right (wd : WT) (law : Int32) : Int32 := if (w_hasLaw wd law) = true then w_rightOf wd law (-1) else (-1)
set_option maxHeartbeats 4000000 in
set_option maxRecDepth 100000 in
theorem c_X5_right (l : Launch) (G : GG) (AD ad td : Nat → Nat) (wd wt : WT) (tk : Bool) (rn : Int32) (bo : Nat → Int32) (law : Int32)  : Met l yX5_right wsX5_right { frames := 6, cells := 0, slots := 0, locals := 164 } (roP G [.ref (AD 0), .int law] (fun H => CAt G AD ad td wd wt tk rn bo H)) (roQ (some (.int (s_right wd law)))) 0 0 nF := by
  refine Met.ofW (cc := cX5_right) (maxL := 2) (ret := (some .int)) (by decide) rfl ?_
  intro p e s m args below meth c s₁ Bd hml hv
  obtain ⟨rfl, hK, hB⟩ := hv
  have hx := Bd.exec
  have hb := Bd.bytes
  have hr := Bd.returns
  have hts := atoms_spec (ws := wsX5_right) Bd.pre
  have hown : s.vm.findClass RX5 = some m.cls := findClass_of_methodNamed Bd.named
  have hlocks := Bd.notSynchronized
  have hC : CallFix p m c cX5_right 2 s _ wsX5_right RX5 := ⟨hx, hb, hml, hown, hts⟩
  have hl := lv_entry ([.ref (AD 0), .int law]) (n := 2) (Nat.le_of_ble_eq_true rfl)
  rw [lg_entry_eq]
  generalize (lg_sl ([.ref (AD 0), .int law]) ++ List.replicate (2 - (lg_sl ([.ref (AD 0), .int law])).length) Slot.unset).toArray = ls at hl ⊢
  have hl : lv_has ls 2 [(0, .ref (AD 0)), (1, .int law)] := hl
  have f_s := hB
  obtain ⟨f_c, hW, f_t, f_a, f_b⟩ := hB
  obtain ⟨f_o, f_ch, f_as, f_an, f_tp, ⟨qf, f_q, hqf⟩, f_lw, hlc⟩ := id hW
  refine lv_aload_n hx hb dX5_right_0 rfl (lv_at hl 0 rfl) ?_
  refine r_get (C := RX5) (T := TX5) (N := 4) hx hb hts i_X5_right_X5 hown hK f_c rfl 0 (by decide) k_X5_right_fieldLink_14 rfl rfl dX5_right_1 ?_
  refine lv_iload_n hx hb dX5_right_4 rfl (lv_at hl 1 rfl) ?_
  refine ro_call (va_runV (As := [.int law]) (rest := []) hC (c_X4_hasLaw l G ad wd law) (cwV 1 hts gX5_right_X4_hasLaw rfl rfl rfl kd_X4_hasLaw ⟨Nat.le_of_ble_eq_true rfl, Nat.le_of_ble_eq_true rfl⟩) (ro_preV hK f_o rfl hW) rfl rfl hl.1 rfl (lv_room (Nat.le_of_ble_eq_true rfl)) dX5_right_5 ⟨Nat.zero_le _, Nat.zero_le _⟩) ?_
  refine join_at (nL := 2) 24 [(0, .ref (AD 0)), (1, .int law)] [.int (if (w_hasLaw wd law) = true then w_rightOf wd law (-1) else (-1))] (fun ls hl => ?_) (fun J_1 => ?_)
  · exact ro_iret hx hb hr hlocks dX5_right_24 rfl
  · refine bz_eq (tgt := 23) hx hb dX5_right_8 (by decide) (fun h_2 => ?_) (fun h_2 => ?_)
    · refine lv_iconst (v := (-1)) hx hb dX5_right_23 (by decide) ?_
      have hJ := J_1; (repeat rw [if_neg h_2] at hJ)
      first | exact hJ ls (lv_sub hl [0, 1] rfl) | ((repeat rw [if_neg h_2] at hl); (repeat rw [if_neg h_2]); exact hJ ls (lv_sub hl [0, 1] rfl))
    · refine lv_aload_n hx hb dX5_right_11 rfl (lv_at hl 0 rfl) ?_
      refine r_get (C := RX5) (T := TX5) (N := 4) hx hb hts i_X5_right_X5 hown hK f_c rfl 0 (by decide) k_X5_right_fieldLink_14 rfl rfl dX5_right_12 ?_
      refine lv_iload_n hx hb dX5_right_15 rfl (lv_at hl 1 rfl) ?_
      refine lv_iconst (v := (-1)) hx hb dX5_right_16 (by decide) ?_
      refine ro_call (va_runV (As := [.int law, .int (-1)]) (rest := []) hC (c_X4_rightOf l G ad wd law (-1)) (cwV 2 hts gX5_right_X4_rightOf rfl rfl rfl kd_X4_rightOf ⟨Nat.le_of_ble_eq_true rfl, Nat.le_of_ble_eq_true rfl⟩) (ro_preV hK f_o rfl hW) rfl rfl hl.1 rfl (lv_room (Nat.le_of_ble_eq_true rfl)) dX5_right_17 ⟨Nat.zero_le _, Nat.zero_le _⟩) ?_
      refine lv_goto (tgt := 24) hx hb dX5_right_20 (by decide) ?_
      have hJ := J_1; (repeat rw [if_pos h_2] at hJ)
      first | exact hJ ls (lv_sub hl [0, 1] rfl) | ((repeat rw [if_pos h_2] at hl); (repeat rw [if_pos h_2]); exact hJ ls (lv_sub hl [0, 1] rfl))
theorem i_X5_likeliest_X5 : ∀ w ∈ wsX50, w ∈ wsX5_likeliest := fun _ h => List.mem_cons_of_mem _ (List.mem_append_left _ (List.mem_append_left _ (List.mem_append_left _ (List.mem_append_right _ h))))
theorem k_X5_likeliest_fieldLink_14 : Cond.fieldLink RX5 14 "SameWater" "now" "LSameWater$World;" ∈ wsX5_likeliest := by decide +kernel
theorem k_X5_likeliest_constantLong_168 : Cond.constantLong RX5 168 (-1) ∈ wsX5_likeliest := by decide +kernel
theorem i_X5_likeliest_X4 : ∀ w ∈ wsX40, w ∈ wsX5_likeliest := fun _ h => List.mem_cons_of_mem _ (List.mem_append_left _ (List.mem_append_left _ (List.mem_append_right _ h)))
theorem k_X5_likeliest_fieldLink_93 : Cond.fieldLink RX5 93 "SameWater$World" "lawCount" "I" ∈ wsX5_likeliest := by decide +kernel
theorem kd_X4_isSet : yX4_isSet.cls = RX4 ∧ yX4_isSet.cls ≠ "java/lang/invoke/MethodHandle" ∧ yX4_isSet.cls ≠ "java/lang/invoke/VarHandle" ∧ (parseMethodDescriptor yX4_isSet.desc).map (fun d => d.parameters.length) = some 1 := by decide +kernel
theorem kd_X4_oddsAbove : yX4_oddsAbove.cls = RX4 ∧ yX4_oddsAbove.cls ≠ "java/lang/invoke/MethodHandle" ∧ yX4_oddsAbove.cls ≠ "java/lang/invoke/VarHandle" ∧ (parseMethodDescriptor yX4_oddsAbove.desc).map (fun d => d.parameters.length) = some 2 := by decide +kernel
def s_likeIt_st (wd : WT) (set0 : Int32) (k : Nat) (bs : Int32) (mo : Int64) : Int32 × Int64 := (if (lg_cmp (w_oddsAbove wd (nI k) set0) mo) ≤ 0 then bs else nI k, if (lg_cmp (w_oddsAbove wd (nI k) set0) mo) ≤ 0 then mo else w_oddsAbove wd (nI k) set0)
def s_likeIt (wd : WT) (set0 : Int32) (bs0 : Int32) (mo0 : Int64) : Nat → Int32 × Int64
  | 0 => (bs0, mo0)
  | k + 1 => s_likeIt_st wd set0 k ((s_likeIt wd set0 bs0 mo0 k).1) ((s_likeIt wd set0 bs0 mo0 k).2)
def s_likeliest (wd : WT) (set0 : Int32) : Int32 := if (w_isSet wd set0) = true then (s_likeIt wd set0 (-5) (-1) (wLc wd)).1 else (-2)
set_option maxHeartbeats 4000000 in
set_option maxRecDepth 100000 in
theorem c_X5_likeliest (l : Launch) (G : GG) (AD ad td : Nat → Nat) (wd wt : WT) (tk : Bool) (rn : Int32) (bo : Nat → Int32) (set0 : Int32)  : Met l yX5_likeliest wsX5_likeliest { frames := 7, cells := 0, slots := 0, locals := 188 } (roP G [.ref (AD 0), .int set0] (fun H => CAt G AD ad td wd wt tk rn bo H)) (roQ (some (.int (s_likeliest wd set0)))) 0 0 nF := by
  refine Met.ofW (cc := cX5_likeliest) (maxL := 8) (ret := (some .int)) (by decide) rfl ?_
  intro p e s m args below meth c s₁ Bd hml hv
  obtain ⟨rfl, hK, hB⟩ := hv
  have hx := Bd.exec
  have hb := Bd.bytes
  have hr := Bd.returns
  have hts := atoms_spec (ws := wsX5_likeliest) Bd.pre
  have hown : s.vm.findClass RX5 = some m.cls := findClass_of_methodNamed Bd.named
  have hlocks := Bd.notSynchronized
  have hC : CallFix p m c cX5_likeliest 8 s _ wsX5_likeliest RX5 := ⟨hx, hb, hml, hown, hts⟩
  have hl := lv_entry ([.ref (AD 0), .int set0]) (n := 8) (Nat.le_of_ble_eq_true rfl)
  rw [lg_entry_eq]
  generalize (lg_sl ([.ref (AD 0), .int set0]) ++ List.replicate (8 - (lg_sl ([.ref (AD 0), .int set0])).length) Slot.unset).toArray = ls at hl ⊢
  have hl : lv_has ls 8 [(0, .ref (AD 0)), (1, .int set0)] := hl
  have f_s := hB
  obtain ⟨f_c, hW, f_t, f_a, f_b⟩ := hB
  obtain ⟨f_o, f_ch, f_as, f_an, f_tp, ⟨qf, f_q, hqf⟩, f_lw, hlc⟩ := id hW
  refine lv_aload_n hx hb dX5_likeliest_0 rfl (lv_at hl 0 rfl) ?_
  refine r_get (C := RX5) (T := TX5) (N := 4) hx hb hts i_X5_likeliest_X5 hown hK f_c rfl 0 (by decide) k_X5_likeliest_fieldLink_14 rfl rfl dX5_likeliest_1 ?_
  refine lv_iload_n hx hb dX5_likeliest_4 rfl (lv_at hl 1 rfl) ?_
  refine ro_call (va_runV (As := [.int set0]) (rest := []) hC (c_X4_isSet l G ad wd set0) (cwV 1 hts gX5_likeliest_X4_isSet rfl rfl rfl kd_X4_isSet ⟨Nat.le_of_ble_eq_true rfl, Nat.le_of_ble_eq_true rfl⟩) (ro_preV hK f_o rfl hW) rfl rfl hl.1 rfl (lv_room (Nat.le_of_ble_eq_true rfl)) dX5_likeliest_5 ⟨Nat.zero_le _, Nat.zero_le _⟩) ?_
  refine bz_ne (tgt := 14) hx hb dX5_likeliest_8 (by decide) (fun h_1 => ?_) (fun h_1 => ?_)
  · refine lv_bipush (v := (-5)) hx hb dX5_likeliest_14 (by decide +kernel) ?_
    refine lv_istore_n (lv' := [(2, .int (-5)), (0, .ref (AD 0)), (1, .int set0)]) hx hb dX5_likeliest_16 rfl hl (by decide) rfl (fun ls hl => ?_)
    refine lv_ldc2 (v := (-1)) hx hb hown (hts _ k_X5_likeliest_constantLong_168) dX5_likeliest_17 ?_
    refine lv_lstore_n (lv' := [(3, .long (-1)), (2, .int (-5)), (0, .ref (AD 0)), (1, .int set0)]) hx hb dX5_likeliest_20 rfl hl (by decide) rfl (fun ls hl => ?_)
    refine lv_iconst (v := 0) hx hb dX5_likeliest_21 (by decide) ?_
    refine lv_istore (lv' := [(5, .int 0), (3, .long (-1)), (2, .int (-5)), (0, .ref (AD 0)), (1, .int set0)]) hx hb dX5_likeliest_22 hl (by decide) rfl (fun ls hl => ?_)
    refine loop_at (nL := 8) (fun k : Nat => [(0, .ref (AD 0)), (1, .int set0), (2, .int ((s_likeIt wd set0 (-5) (-1) k).1)), (3, .long ((s_likeIt wd set0 (-5) (-1) k).2)), (5, .int (nI k))]) (fun k => k ≤ (wLc wd)) (fun k => (wLc wd) - k) 0 (Nat.zero_le _) (lv_sub hl [3, 4, 2, 1, 0] rfl) (fun k hk_k ih_k ls hl => ?_)
    have hl : lv_has ls 8 [(0, .ref (AD 0)), (1, .int set0), (2, .int ((s_likeIt wd set0 (-5) (-1) k).1)), (3, .long ((s_likeIt wd set0 (-5) (-1) k).2)), (5, .int (nI k))] := hl
    refine lv_iload hx hb dX5_likeliest_24 (lv_at hl 4 rfl) ?_
    refine lv_aload_n hx hb dX5_likeliest_26 rfl (lv_at hl 0 rfl) ?_
    refine r_get (C := RX5) (T := TX5) (N := 4) hx hb hts i_X5_likeliest_X5 hown hK f_c rfl 0 (by decide) k_X5_likeliest_fieldLink_14 rfl rfl dX5_likeliest_27 ?_
    refine r_get (C := RX4) (T := TX4) (N := 6) hx hb hts i_X5_likeliest_X4 hown hK f_o rfl 5 (by decide) k_X5_likeliest_fieldLink_93 rfl rfl dX5_likeliest_30 ?_
    refine lv_icmp_ge (tgt := 67) hx hb dX5_likeliest_33 (by decide) (fun h_2 => ?_) (fun h_2 => ?_)
    · have hN_k : k = (wLc wd) := ge_ex (N := (wLc wd)) rfl h_2 hk_k (by omega)
      subst hN_k
      refine lv_iload_n hx hb dX5_likeliest_67 rfl (lv_at hl 2 rfl) ?_
      exact ro_iret hx hb hr hlocks dX5_likeliest_68 (by (try unfold s_likeliest); (repeat rw [if_pos h_1]); first | done | rfl)
    · have hlt_k : k < (wLc wd) := ge_in (N := (wLc wd)) rfl h_2 hk_k (by omega)
      refine lv_aload_n hx hb dX5_likeliest_36 rfl (lv_at hl 0 rfl) ?_
      refine r_get (C := RX5) (T := TX5) (N := 4) hx hb hts i_X5_likeliest_X5 hown hK f_c rfl 0 (by decide) k_X5_likeliest_fieldLink_14 rfl rfl dX5_likeliest_37 ?_
      refine lv_iload hx hb dX5_likeliest_40 (lv_at hl 4 rfl) ?_
      refine lv_iload_n hx hb dX5_likeliest_42 rfl (lv_at hl 1 rfl) ?_
      refine ro_call (va_runV (As := [.int (nI k), .int set0]) (rest := []) hC (c_X4_oddsAbove l G ad wd (nI k) set0) (cwV 2 hts gX5_likeliest_X4_oddsAbove rfl rfl rfl kd_X4_oddsAbove ⟨Nat.le_of_ble_eq_true rfl, Nat.le_of_ble_eq_true rfl⟩) (ro_preV hK f_o rfl hW) rfl rfl hl.1 rfl (lv_room (Nat.le_of_ble_eq_true rfl)) dX5_likeliest_43 ⟨Nat.zero_le _, Nat.zero_le _⟩) ?_
      refine lv_lstore (lv' := [(6, .long (w_oddsAbove wd (nI k) set0)), (0, .ref (AD 0)), (1, .int set0), (2, .int ((s_likeIt wd set0 (-5) (-1) k).1)), (3, .long ((s_likeIt wd set0 (-5) (-1) k).2)), (5, .int (nI k))]) hx hb dX5_likeliest_46 hl (by decide) rfl (fun ls hl => ?_)
      refine lv_lload hx hb dX5_likeliest_48 (lv_at hl 0 rfl) ?_
      refine lv_lload_n hx hb dX5_likeliest_50 rfl (lv_at hl 4 rfl) ?_
      refine W.lcmp hx hb dX5_likeliest_51 ?_
      refine join_at (nL := 8) 61 [(6, .long (w_oddsAbove wd (nI k) set0)), (0, .ref (AD 0)), (1, .int set0), (2, .int (if (lg_cmp (w_oddsAbove wd (nI k) set0) ((s_likeIt wd set0 (-5) (-1) k).2)) ≤ 0 then (s_likeIt wd set0 (-5) (-1) k).1 else nI k)), (3, .long (if (lg_cmp (w_oddsAbove wd (nI k) set0) ((s_likeIt wd set0 (-5) (-1) k).2)) ≤ 0 then (s_likeIt wd set0 (-5) (-1) k).2 else w_oddsAbove wd (nI k) set0)), (5, .int (nI k))] [] (fun ls hl => ?_) (fun J_3 => ?_)
      · refine lv_iinc (v := (nI k) + 1) (lv' := [(5, .int ((nI k) + 1)), (6, .long (w_oddsAbove wd (nI k) set0)), (0, .ref (AD 0)), (1, .int set0), (2, .int (if (lg_cmp (w_oddsAbove wd (nI k) set0) ((s_likeIt wd set0 (-5) (-1) k).2)) ≤ 0 then (s_likeIt wd set0 (-5) (-1) k).1 else nI k)), (3, .long (if (lg_cmp (w_oddsAbove wd (nI k) set0) ((s_likeIt wd set0 (-5) (-1) k).2)) ≤ 0 then (s_likeIt wd set0 (-5) (-1) k).2 else w_oddsAbove wd (nI k) set0))]) hx hb dX5_likeliest_61 hl (k := 5) rfl rfl (by decide) rfl (fun ls hl => ?_)
        refine lv_goto (tgt := 24) hx hb dX5_likeliest_64 (by decide) ?_
        have hE : (s_likeIt wd set0 (-5) (-1) (k + 1)) = (if (lg_cmp (w_oddsAbove wd (nI k) set0) ((s_likeIt wd set0 (-5) (-1) k).2)) ≤ 0 then (s_likeIt wd set0 (-5) (-1) k).1 else nI k, if (lg_cmp (w_oddsAbove wd (nI k) set0) ((s_likeIt wd set0 (-5) (-1) k).2)) ≤ 0 then (s_likeIt wd set0 (-5) (-1) k).2 else w_oddsAbove wd (nI k) set0) := (by show s_likeIt_st wd set0 k ((s_likeIt wd set0 (-5) (-1) k).1) ((s_likeIt wd set0 (-5) (-1) k).2) = _; (try unfold s_likeIt_st); first | done | rfl)
        refine ih_k (k + 1) (show k + 1 ≤ (wLc wd) by omega) (by omega) ls ?_
        show lv_has ls 8 [(0, .ref (AD 0)), (1, .int set0), (2, .int ((s_likeIt wd set0 (-5) (-1) (k + 1)).1)), (3, .long ((s_likeIt wd set0 (-5) (-1) (k + 1)).2)), (5, .int (nI (k + 1)))]
        rw [nI_succ, hE]
        exact lv_sub hl [2, 3, 4, 5, 0] rfl
      · refine lv_if_le (tgt := 61) hx hb dX5_likeliest_52 (by decide) (fun h_4 => ?_) (fun h_4 => ?_)
        · have hJ := J_3; (repeat rw [if_pos h_4] at hJ)
          first | exact hJ ls (lv_sub hl [0, 1, 2, 3, 4, 5] rfl) | ((repeat rw [if_pos h_4] at hl); (repeat rw [if_pos h_4]); exact hJ ls (lv_sub hl [0, 1, 2, 3, 4, 5] rfl))
        · refine lv_lload hx hb dX5_likeliest_55 (lv_at hl 0 rfl) ?_
          refine lv_lstore_n (lv' := [(3, .long (w_oddsAbove wd (nI k) set0)), (6, .long (w_oddsAbove wd (nI k) set0)), (0, .ref (AD 0)), (1, .int set0), (2, .int ((s_likeIt wd set0 (-5) (-1) k).1)), (5, .int (nI k))]) hx hb dX5_likeliest_57 rfl hl (by decide) rfl (fun ls hl => ?_)
          refine lv_iload hx hb dX5_likeliest_58 (lv_at hl 5 rfl) ?_
          refine lv_istore_n (lv' := [(2, .int (nI k)), (3, .long (w_oddsAbove wd (nI k) set0)), (6, .long (w_oddsAbove wd (nI k) set0)), (0, .ref (AD 0)), (1, .int set0), (5, .int (nI k))]) hx hb dX5_likeliest_60 rfl hl (by decide) rfl (fun ls hl => ?_)
          have hJ := J_3; (repeat rw [if_neg h_4] at hJ)
          first | exact hJ ls (lv_sub hl [2, 3, 4, 0, 1, 5] rfl) | ((repeat rw [if_neg h_4] at hl); (repeat rw [if_neg h_4]); exact hJ ls (lv_sub hl [2, 3, 4, 0, 1, 5] rfl))
  · refine lv_bipush (v := (-2)) hx hb dX5_likeliest_11 (by decide +kernel) ?_
    exact ro_iret hx hb hr hlocks dX5_likeliest_13 (by (try unfold s_likeliest); (repeat rw [if_neg h_1]); first | done | rfl)
theorem i_X5_rule_X5 : ∀ w ∈ wsX50, w ∈ wsX5_rule := fun _ h => List.mem_cons_of_mem _ (List.mem_append_left _ (List.mem_append_left _ (List.mem_append_left _ (List.mem_append_right _ h))))
theorem k_X5_rule_fieldLink_14 : Cond.fieldLink RX5 14 "SameWater" "now" "LSameWater$World;" ∈ wsX5_rule := by decide +kernel
theorem i_X5_rule_X4 : ∀ w ∈ wsX40, w ∈ wsX5_rule := fun _ h => List.mem_cons_of_mem _ (List.mem_append_left _ (List.mem_append_left _ (List.mem_append_right _ h)))
theorem k_X5_rule_fieldLink_28 : Cond.fieldLink RX5 28 "SameWater$World" "children" "LSameWater$Rows;" ∈ wsX5_rule := by decide +kernel
theorem kd_X4_ruleOf : yX4_ruleOf.cls = RX4 ∧ yX4_ruleOf.cls ≠ "java/lang/invoke/MethodHandle" ∧ yX4_ruleOf.cls ≠ "java/lang/invoke/VarHandle" ∧ (parseMethodDescriptor yX4_ruleOf.desc).map (fun d => d.parameters.length) = some 1 := by decide +kernel
def s_rule (wd : WT) (child : Int32) : Int32 := if (f_has (wCh wd) child) = true then w_ruleOf wd child else (-1)
set_option maxHeartbeats 4000000 in
set_option maxRecDepth 100000 in
theorem c_X5_rule (l : Launch) (G : GG) (AD ad td : Nat → Nat) (wd wt : WT) (tk : Bool) (rn : Int32) (bo : Nat → Int32) (child : Int32)  : Met l yX5_rule wsX5_rule { frames := 7, cells := 0, slots := 0, locals := 189 } (roP G [.ref (AD 0), .int child] (fun H => CAt G AD ad td wd wt tk rn bo H)) (roQ (some (.int (s_rule wd child)))) 0 0 nF := by
  refine Met.ofW (cc := cX5_rule) (maxL := 2) (ret := (some .int)) (by decide) rfl ?_
  intro p e s m args below meth c s₁ Bd hml hv
  obtain ⟨rfl, hK, hB⟩ := hv
  have hx := Bd.exec
  have hb := Bd.bytes
  have hr := Bd.returns
  have hts := atoms_spec (ws := wsX5_rule) Bd.pre
  have hown : s.vm.findClass RX5 = some m.cls := findClass_of_methodNamed Bd.named
  have hlocks := Bd.notSynchronized
  have hC : CallFix p m c cX5_rule 2 s _ wsX5_rule RX5 := ⟨hx, hb, hml, hown, hts⟩
  have hl := lv_entry ([.ref (AD 0), .int child]) (n := 2) (Nat.le_of_ble_eq_true rfl)
  rw [lg_entry_eq]
  generalize (lg_sl ([.ref (AD 0), .int child]) ++ List.replicate (2 - (lg_sl ([.ref (AD 0), .int child])).length) Slot.unset).toArray = ls at hl ⊢
  have hl : lv_has ls 2 [(0, .ref (AD 0)), (1, .int child)] := hl
  have f_s := hB
  obtain ⟨f_c, hW, f_t, f_a, f_b⟩ := hB
  obtain ⟨f_o, f_ch, f_as, f_an, f_tp, ⟨qf, f_q, hqf⟩, f_lw, hlc⟩ := id hW
  refine lv_aload_n hx hb dX5_rule_0 rfl (lv_at hl 0 rfl) ?_
  refine r_get (C := RX5) (T := TX5) (N := 4) hx hb hts i_X5_rule_X5 hown hK f_c rfl 0 (by decide) k_X5_rule_fieldLink_14 rfl rfl dX5_rule_1 ?_
  refine r_get (C := RX4) (T := TX4) (N := 6) hx hb hts i_X5_rule_X4 hown hK f_o rfl 0 (by decide) k_X5_rule_fieldLink_28 rfl rfl dX5_rule_4 ?_
  refine lv_iload_n hx hb dX5_rule_7 rfl (lv_at hl 1 rfl) ?_
  refine ro_call (va_runV (As := [.int child]) (rest := []) hC (c_X2_has l G (ad 1) (ad 2) 8 5 (wCh wd) child) (cwV 1 hts gX5_rule_X2_has rfl rfl rfl kd_X2_has ⟨Nat.le_of_ble_eq_true rfl, Nat.le_of_ble_eq_true rfl⟩) (ro_preV hK f_ch.1 rfl f_ch) rfl rfl hl.1 rfl (lv_room (Nat.le_of_ble_eq_true rfl)) dX5_rule_8 ⟨Nat.zero_le _, Nat.zero_le _⟩) ?_
  refine join_at (nL := 2) 26 [(0, .ref (AD 0)), (1, .int child)] [.int (if (f_has (wCh wd) child) = true then w_ruleOf wd child else (-1))] (fun ls hl => ?_) (fun J_1 => ?_)
  · exact ro_iret hx hb hr hlocks dX5_rule_26 rfl
  · refine bz_eq (tgt := 25) hx hb dX5_rule_11 (by decide) (fun h_2 => ?_) (fun h_2 => ?_)
    · refine lv_iconst (v := (-1)) hx hb dX5_rule_25 (by decide) ?_
      have hJ := J_1; (repeat rw [if_neg h_2] at hJ)
      first | exact hJ ls (lv_sub hl [0, 1] rfl) | ((repeat rw [if_neg h_2] at hl); (repeat rw [if_neg h_2]); exact hJ ls (lv_sub hl [0, 1] rfl))
    · refine lv_aload_n hx hb dX5_rule_14 rfl (lv_at hl 0 rfl) ?_
      refine r_get (C := RX5) (T := TX5) (N := 4) hx hb hts i_X5_rule_X5 hown hK f_c rfl 0 (by decide) k_X5_rule_fieldLink_14 rfl rfl dX5_rule_15 ?_
      refine lv_iload_n hx hb dX5_rule_18 rfl (lv_at hl 1 rfl) ?_
      refine ro_call (va_runV (As := [.int child]) (rest := []) hC (c_X4_ruleOf l G ad wd child) (cwV 1 hts gX5_rule_X4_ruleOf rfl rfl rfl kd_X4_ruleOf ⟨Nat.le_of_ble_eq_true rfl, Nat.le_of_ble_eq_true rfl⟩) (ro_preV hK f_o rfl hW) rfl rfl hl.1 rfl (lv_room (Nat.le_of_ble_eq_true rfl)) dX5_rule_19 ⟨Nat.zero_le _, Nat.zero_le _⟩) ?_
      refine lv_goto (tgt := 26) hx hb dX5_rule_22 (by decide) ?_
      have hJ := J_1; (repeat rw [if_pos h_2] at hJ)
      first | exact hJ ls (lv_sub hl [0, 1] rfl) | ((repeat rw [if_pos h_2] at hl); (repeat rw [if_pos h_2]); exact hJ ls (lv_sub hl [0, 1] rfl))
theorem i_X5_parts_X5 : ∀ w ∈ wsX50, w ∈ wsX5_parts := fun _ h => List.mem_cons_of_mem _ (List.mem_append_left _ (List.mem_append_left _ (List.mem_append_left _ (List.mem_append_right _ h))))
theorem k_X5_parts_fieldLink_14 : Cond.fieldLink RX5 14 "SameWater" "now" "LSameWater$World;" ∈ wsX5_parts := by decide +kernel
theorem kd_X4_partings : yX4_partings.cls = RX4 ∧ yX4_partings.cls ≠ "java/lang/invoke/MethodHandle" ∧ yX4_partings.cls ≠ "java/lang/invoke/VarHandle" ∧ (parseMethodDescriptor yX4_partings.desc).map (fun d => d.parameters.length) = some 2 := by decide +kernel
def s_parts (wd : WT) (law : Int32) (other : Int32) : Int32 := if (w_hasLaw wd law) = true then if (w_hasLaw wd other) = true then w_partings wd law other else (-1) else (-1)
set_option maxHeartbeats 4000000 in
set_option maxRecDepth 100000 in
theorem c_X5_parts (l : Launch) (G : GG) (AD ad td : Nat → Nat) (wd wt : WT) (tk : Bool) (rn : Int32) (bo : Nat → Int32) (law : Int32) (other : Int32)  : Met l yX5_parts wsX5_parts { frames := 6, cells := 0, slots := 0, locals := 165 } (roP G [.ref (AD 0), .int law, .int other] (fun H => CAt G AD ad td wd wt tk rn bo H)) (roQ (some (.int (s_parts wd law other)))) 0 0 nF := by
  refine Met.ofW (cc := cX5_parts) (maxL := 3) (ret := (some .int)) (by decide) rfl ?_
  intro p e s m args below meth c s₁ Bd hml hv
  obtain ⟨rfl, hK, hB⟩ := hv
  have hx := Bd.exec
  have hb := Bd.bytes
  have hr := Bd.returns
  have hts := atoms_spec (ws := wsX5_parts) Bd.pre
  have hown : s.vm.findClass RX5 = some m.cls := findClass_of_methodNamed Bd.named
  have hlocks := Bd.notSynchronized
  have hC : CallFix p m c cX5_parts 3 s _ wsX5_parts RX5 := ⟨hx, hb, hml, hown, hts⟩
  have hl := lv_entry ([.ref (AD 0), .int law, .int other]) (n := 3) (Nat.le_of_ble_eq_true rfl)
  rw [lg_entry_eq]
  generalize (lg_sl ([.ref (AD 0), .int law, .int other]) ++ List.replicate (3 - (lg_sl ([.ref (AD 0), .int law, .int other])).length) Slot.unset).toArray = ls at hl ⊢
  have hl : lv_has ls 3 [(0, .ref (AD 0)), (1, .int law), (2, .int other)] := hl
  have f_s := hB
  obtain ⟨f_c, hW, f_t, f_a, f_b⟩ := hB
  obtain ⟨f_o, f_ch, f_as, f_an, f_tp, ⟨qf, f_q, hqf⟩, f_lw, hlc⟩ := id hW
  refine lv_aload_n hx hb dX5_parts_0 rfl (lv_at hl 0 rfl) ?_
  refine r_get (C := RX5) (T := TX5) (N := 4) hx hb hts i_X5_parts_X5 hown hK f_c rfl 0 (by decide) k_X5_parts_fieldLink_14 rfl rfl dX5_parts_1 ?_
  refine lv_iload_n hx hb dX5_parts_4 rfl (lv_at hl 1 rfl) ?_
  refine ro_call (va_runV (As := [.int law]) (rest := []) hC (c_X4_hasLaw l G ad wd law) (cwV 1 hts gX5_parts_X4_hasLaw rfl rfl rfl kd_X4_hasLaw ⟨Nat.le_of_ble_eq_true rfl, Nat.le_of_ble_eq_true rfl⟩) (ro_preV hK f_o rfl hW) rfl rfl hl.1 rfl (lv_room (Nat.le_of_ble_eq_true rfl)) dX5_parts_5 ⟨Nat.zero_le _, Nat.zero_le _⟩) ?_
  refine join_at (nL := 3) 35 [(0, .ref (AD 0)), (1, .int law), (2, .int other)] [.int (if (w_hasLaw wd law) = true then if (w_hasLaw wd other) = true then w_partings wd law other else (-1) else (-1))] (fun ls hl => ?_) (fun J_1 => ?_)
  · exact ro_iret hx hb hr hlocks dX5_parts_35 rfl
  · refine bz_eq (tgt := 34) hx hb dX5_parts_8 (by decide) (fun h_2 => ?_) (fun h_2 => ?_)
    · refine lv_iconst (v := (-1)) hx hb dX5_parts_34 (by decide) ?_
      have hJ := J_1; (repeat rw [if_neg h_2] at hJ)
      first | exact hJ ls (lv_sub hl [0, 1, 2] rfl) | ((repeat rw [if_neg h_2] at hl); (repeat rw [if_neg h_2]); exact hJ ls (lv_sub hl [0, 1, 2] rfl))
    · refine lv_aload_n hx hb dX5_parts_11 rfl (lv_at hl 0 rfl) ?_
      refine r_get (C := RX5) (T := TX5) (N := 4) hx hb hts i_X5_parts_X5 hown hK f_c rfl 0 (by decide) k_X5_parts_fieldLink_14 rfl rfl dX5_parts_12 ?_
      refine lv_iload_n hx hb dX5_parts_15 rfl (lv_at hl 2 rfl) ?_
      refine ro_call (va_runV (As := [.int other]) (rest := []) hC (c_X4_hasLaw l G ad wd other) (cwV 1 hts gX5_parts_X4_hasLaw rfl rfl rfl kd_X4_hasLaw ⟨Nat.le_of_ble_eq_true rfl, Nat.le_of_ble_eq_true rfl⟩) (ro_preV hK f_o rfl hW) rfl rfl hl.1 rfl (lv_room (Nat.le_of_ble_eq_true rfl)) dX5_parts_16 ⟨Nat.zero_le _, Nat.zero_le _⟩) ?_
      refine bz_eq (tgt := 34) hx hb dX5_parts_19 (by decide) (fun h_3 => ?_) (fun h_3 => ?_)
      · refine lv_iconst (v := (-1)) hx hb dX5_parts_34 (by decide) ?_
        have hJ := J_1; (repeat rw [if_pos h_2] at hJ); (repeat rw [if_neg h_3] at hJ)
        first | exact hJ ls (lv_sub hl [0, 1, 2] rfl) | ((repeat rw [if_pos h_2] at hl); (repeat rw [if_neg h_3] at hl); (repeat rw [if_pos h_2]); (repeat rw [if_neg h_3]); exact hJ ls (lv_sub hl [0, 1, 2] rfl))
      · refine lv_aload_n hx hb dX5_parts_22 rfl (lv_at hl 0 rfl) ?_
        refine r_get (C := RX5) (T := TX5) (N := 4) hx hb hts i_X5_parts_X5 hown hK f_c rfl 0 (by decide) k_X5_parts_fieldLink_14 rfl rfl dX5_parts_23 ?_
        refine lv_iload_n hx hb dX5_parts_26 rfl (lv_at hl 1 rfl) ?_
        refine lv_iload_n hx hb dX5_parts_27 rfl (lv_at hl 2 rfl) ?_
        refine ro_call (va_runV (As := [.int law, .int other]) (rest := []) hC (c_X4_partings l G ad wd law other) (cwV 2 hts gX5_parts_X4_partings rfl rfl rfl kd_X4_partings ⟨Nat.le_of_ble_eq_true rfl, Nat.le_of_ble_eq_true rfl⟩) (ro_preV hK f_o rfl hW) rfl rfl hl.1 rfl (lv_room (Nat.le_of_ble_eq_true rfl)) dX5_parts_28 ⟨Nat.zero_le _, Nat.zero_le _⟩) ?_
        refine lv_goto (tgt := 35) hx hb dX5_parts_31 (by decide) ?_
        have hJ := J_1; (repeat rw [if_pos h_2] at hJ); (repeat rw [if_pos h_3] at hJ)
        first | exact hJ ls (lv_sub hl [0, 1, 2] rfl) | ((repeat rw [if_pos h_2] at hl); (repeat rw [if_pos h_3] at hl); (repeat rw [if_pos h_2]); (repeat rw [if_pos h_3]); exact hJ ls (lv_sub hl [0, 1, 2] rfl))
theorem i_X5_next_X5 : ∀ w ∈ wsX50, w ∈ wsX5_next := fun _ h => List.mem_cons_of_mem _ (List.mem_append_left _ (List.mem_append_left _ (List.mem_append_left _ (List.mem_append_right _ h))))
theorem k_X5_next_fieldLink_14 : Cond.fieldLink RX5 14 "SameWater" "now" "LSameWater$World;" ∈ wsX5_next := by decide +kernel
theorem i_X5_next_X4 : ∀ w ∈ wsX40, w ∈ wsX5_next := fun _ h => List.mem_cons_of_mem _ (List.mem_append_left _ (List.mem_append_left _ (List.mem_append_right _ h)))
theorem k_X5_next_fieldLink_28 : Cond.fieldLink RX5 28 "SameWater$World" "children" "LSameWater$Rows;" ∈ wsX5_next := by decide +kernel
theorem kd_X4_bestAsking : yX4_bestAsking.cls = RX4 ∧ yX4_bestAsking.cls ≠ "java/lang/invoke/MethodHandle" ∧ yX4_bestAsking.cls ≠ "java/lang/invoke/VarHandle" ∧ (parseMethodDescriptor yX4_bestAsking.desc).map (fun d => d.parameters.length) = some 1 := by decide +kernel
def s_next (wd : WT) (child : Int32) : Int32 := if (f_has (wCh wd) child) = true then w_bestAsking wd child else (-1)
set_option maxHeartbeats 4000000 in
set_option maxRecDepth 100000 in
theorem c_X5_next (l : Launch) (G : GG) (AD ad td : Nat → Nat) (wd wt : WT) (tk : Bool) (rn : Int32) (bo : Nat → Int32) (child : Int32)  : Met l yX5_next wsX5_next { frames := 7, cells := 0, slots := 0, locals := 192 } (roP G [.ref (AD 0), .int child] (fun H => CAt G AD ad td wd wt tk rn bo H)) (roQ (some (.int (s_next wd child)))) 0 0 nF := by
  refine Met.ofW (cc := cX5_next) (maxL := 2) (ret := (some .int)) (by decide) rfl ?_
  intro p e s m args below meth c s₁ Bd hml hv
  obtain ⟨rfl, hK, hB⟩ := hv
  have hx := Bd.exec
  have hb := Bd.bytes
  have hr := Bd.returns
  have hts := atoms_spec (ws := wsX5_next) Bd.pre
  have hown : s.vm.findClass RX5 = some m.cls := findClass_of_methodNamed Bd.named
  have hlocks := Bd.notSynchronized
  have hC : CallFix p m c cX5_next 2 s _ wsX5_next RX5 := ⟨hx, hb, hml, hown, hts⟩
  have hl := lv_entry ([.ref (AD 0), .int child]) (n := 2) (Nat.le_of_ble_eq_true rfl)
  rw [lg_entry_eq]
  generalize (lg_sl ([.ref (AD 0), .int child]) ++ List.replicate (2 - (lg_sl ([.ref (AD 0), .int child])).length) Slot.unset).toArray = ls at hl ⊢
  have hl : lv_has ls 2 [(0, .ref (AD 0)), (1, .int child)] := hl
  have f_s := hB
  obtain ⟨f_c, hW, f_t, f_a, f_b⟩ := hB
  obtain ⟨f_o, f_ch, f_as, f_an, f_tp, ⟨qf, f_q, hqf⟩, f_lw, hlc⟩ := id hW
  refine lv_aload_n hx hb dX5_next_0 rfl (lv_at hl 0 rfl) ?_
  refine r_get (C := RX5) (T := TX5) (N := 4) hx hb hts i_X5_next_X5 hown hK f_c rfl 0 (by decide) k_X5_next_fieldLink_14 rfl rfl dX5_next_1 ?_
  refine r_get (C := RX4) (T := TX4) (N := 6) hx hb hts i_X5_next_X4 hown hK f_o rfl 0 (by decide) k_X5_next_fieldLink_28 rfl rfl dX5_next_4 ?_
  refine lv_iload_n hx hb dX5_next_7 rfl (lv_at hl 1 rfl) ?_
  refine ro_call (va_runV (As := [.int child]) (rest := []) hC (c_X2_has l G (ad 1) (ad 2) 8 5 (wCh wd) child) (cwV 1 hts gX5_next_X2_has rfl rfl rfl kd_X2_has ⟨Nat.le_of_ble_eq_true rfl, Nat.le_of_ble_eq_true rfl⟩) (ro_preV hK f_ch.1 rfl f_ch) rfl rfl hl.1 rfl (lv_room (Nat.le_of_ble_eq_true rfl)) dX5_next_8 ⟨Nat.zero_le _, Nat.zero_le _⟩) ?_
  refine join_at (nL := 2) 26 [(0, .ref (AD 0)), (1, .int child)] [.int (if (f_has (wCh wd) child) = true then w_bestAsking wd child else (-1))] (fun ls hl => ?_) (fun J_1 => ?_)
  · exact ro_iret hx hb hr hlocks dX5_next_26 rfl
  · refine bz_eq (tgt := 25) hx hb dX5_next_11 (by decide) (fun h_2 => ?_) (fun h_2 => ?_)
    · refine lv_iconst (v := (-1)) hx hb dX5_next_25 (by decide) ?_
      have hJ := J_1; (repeat rw [if_neg h_2] at hJ)
      first | exact hJ ls (lv_sub hl [0, 1] rfl) | ((repeat rw [if_neg h_2] at hl); (repeat rw [if_neg h_2]); exact hJ ls (lv_sub hl [0, 1] rfl))
    · refine lv_aload_n hx hb dX5_next_14 rfl (lv_at hl 0 rfl) ?_
      refine r_get (C := RX5) (T := TX5) (N := 4) hx hb hts i_X5_next_X5 hown hK f_c rfl 0 (by decide) k_X5_next_fieldLink_14 rfl rfl dX5_next_15 ?_
      refine lv_iload_n hx hb dX5_next_18 rfl (lv_at hl 1 rfl) ?_
      refine ro_call (va_runV (As := [.int child]) (rest := []) hC (c_X4_bestAsking l G ad wd child) (cwV 1 hts gX5_next_X4_bestAsking rfl rfl rfl kd_X4_bestAsking ⟨Nat.le_of_ble_eq_true rfl, Nat.le_of_ble_eq_true rfl⟩) (ro_preV hK f_o rfl hW) rfl rfl hl.1 rfl (lv_room (Nat.le_of_ble_eq_true rfl)) dX5_next_19 ⟨Nat.zero_le _, Nat.zero_le _⟩) ?_
      refine lv_goto (tgt := 26) hx hb dX5_next_22 (by decide) ?_
      have hJ := J_1; (repeat rw [if_pos h_2] at hJ)
      first | exact hJ ls (lv_sub hl [0, 1] rfl) | ((repeat rw [if_pos h_2] at hl); (repeat rw [if_pos h_2]); exact hJ ls (lv_sub hl [0, 1] rfl))
theorem k_X5_moves_constantLong_139 : Cond.constantLong RX5 139 (-9223372036854775808) ∈ wsX5_moves := by decide +kernel
theorem i_X5_moves_X5 : ∀ w ∈ wsX50, w ∈ wsX5_moves := fun _ h => List.mem_cons_of_mem _ (List.mem_append_left _ (List.mem_append_left _ (List.mem_append_right _ h)))
theorem k_X5_moves_fieldLink_14 : Cond.fieldLink RX5 14 "SameWater" "now" "LSameWater$World;" ∈ wsX5_moves := by decide +kernel
theorem kd_X4_shareLess : yX4_shareLess.cls = RX4 ∧ yX4_shareLess.cls ≠ "java/lang/invoke/MethodHandle" ∧ yX4_shareLess.cls ≠ "java/lang/invoke/VarHandle" ∧ (parseMethodDescriptor yX4_shareLess.desc).map (fun d => d.parameters.length) = some 5 := by decide +kernel
def s_moves (wd : WT) (what : Int32) (part : Int32) : Int64 := if what < 0 then (-9223372036854775808) else if 1 < what then (-9223372036854775808) else if (f_isPart part) = true then if what = 0 then w_shareLess wd 0 2 0 1 part else w_shareLess wd 1 (-1) 0 (-1) part else (-9223372036854775808)
set_option maxHeartbeats 4000000 in
set_option maxRecDepth 100000 in
theorem c_X5_moves (l : Launch) (G : GG) (AD ad td : Nat → Nat) (wd wt : WT) (tk : Bool) (rn : Int32) (bo : Nat → Int32) (what : Int32) (part : Int32)  : Met l yX5_moves wsX5_moves { frames := 4, cells := 0, slots := 0, locals := 102 } (roP G [.ref (AD 0), .int what, .int part] (fun H => CAt G AD ad td wd wt tk rn bo H)) (roQ (some (.long (s_moves wd what part)))) 0 0 nF := by
  refine Met.ofW (cc := cX5_moves) (maxL := 3) (ret := (some .long)) (by decide) rfl ?_
  intro p e s m args below meth c s₁ Bd hml hv
  obtain ⟨rfl, hK, hB⟩ := hv
  have hx := Bd.exec
  have hb := Bd.bytes
  have hr := Bd.returns
  have hts := atoms_spec (ws := wsX5_moves) Bd.pre
  have hown : s.vm.findClass RX5 = some m.cls := findClass_of_methodNamed Bd.named
  have hlocks := Bd.notSynchronized
  have hC : CallFix p m c cX5_moves 3 s _ wsX5_moves RX5 := ⟨hx, hb, hml, hown, hts⟩
  have hl := lv_entry ([.ref (AD 0), .int what, .int part]) (n := 3) (Nat.le_of_ble_eq_true rfl)
  rw [lg_entry_eq]
  generalize (lg_sl ([.ref (AD 0), .int what, .int part]) ++ List.replicate (3 - (lg_sl ([.ref (AD 0), .int what, .int part])).length) Slot.unset).toArray = ls at hl ⊢
  have hl : lv_has ls 3 [(0, .ref (AD 0)), (1, .int what), (2, .int part)] := hl
  have f_s := hB
  obtain ⟨f_c, hW, f_t, f_a, f_b⟩ := hB
  obtain ⟨f_o, f_ch, f_as, f_an, f_tp, ⟨qf, f_q, hqf⟩, f_lw, hlc⟩ := id hW
  refine lv_iload_n hx hb dX5_moves_0 rfl (lv_at hl 1 rfl) ?_
  refine lv_if_lt (tgt := 16) hx hb dX5_moves_1 (by decide) (fun h_1 => ?_) (fun h_1 => ?_)
  · refine lv_ldc2 (v := (-9223372036854775808)) hx hb hown (hts _ k_X5_moves_constantLong_139) dX5_moves_16 ?_
    exact ro_lret hx hb hr hlocks dX5_moves_19 (by (try unfold s_moves); (repeat rw [if_pos h_1]); first | done | rfl)
  · refine lv_iload_n hx hb dX5_moves_4 rfl (lv_at hl 1 rfl) ?_
    refine lv_iconst (v := 1) hx hb dX5_moves_5 (by decide) ?_
    refine lv_icmp_gt (tgt := 16) hx hb dX5_moves_6 (by decide) (fun h_2 => ?_) (fun h_2 => ?_)
    · refine lv_ldc2 (v := (-9223372036854775808)) hx hb hown (hts _ k_X5_moves_constantLong_139) dX5_moves_16 ?_
      exact ro_lret hx hb hr hlocks dX5_moves_19 (by (try unfold s_moves); (repeat rw [if_neg h_1]); (repeat rw [if_pos h_2]); first | done | rfl)
    · refine lv_iload_n hx hb dX5_moves_9 rfl (lv_at hl 2 rfl) ?_
      refine ro_call (va_runS (As := [.int part]) (rest := []) hC (c_X5_isPart l G part) (va_cwS 1 hts gX5_moves_X5_isPart rfl rfl rfl kd_X5_isPart ⟨Nat.le_of_ble_eq_true rfl, Nat.le_of_ble_eq_true rfl⟩) (ro_preS hK trivial) rfl rfl hl.1 rfl (lv_room (Nat.le_of_ble_eq_true rfl)) dX5_moves_10 ⟨Nat.zero_le _, Nat.zero_le _⟩) ?_
      refine bz_ne (tgt := 20) hx hb dX5_moves_13 (by decide) (fun h_3 => ?_) (fun h_3 => ?_)
      · refine lv_iload_n hx hb dX5_moves_20 rfl (lv_at hl 1 rfl) ?_
        refine join_at (nL := 3) 51 [(0, .ref (AD 0)), (1, .int what), (2, .int part)] [.long (if what = 0 then w_shareLess wd 0 2 0 1 part else w_shareLess wd 1 (-1) 0 (-1) part)] (fun ls hl => ?_) (fun J_4 => ?_)
        · exact ro_lret hx hb hr hlocks dX5_moves_51 (by (try unfold s_moves); (repeat rw [if_neg h_1]); (repeat rw [if_neg h_2]); (repeat rw [if_pos h_3]); first | done | rfl)
        · refine lv_if_ne (tgt := 39) hx hb dX5_moves_21 (by decide) (fun h_5 => ?_) (fun h_5 => ?_)
          · refine lv_aload_n hx hb dX5_moves_39 rfl (lv_at hl 0 rfl) ?_
            refine r_get (C := RX5) (T := TX5) (N := 4) hx hb hts i_X5_moves_X5 hown hK f_c rfl 0 (by decide) k_X5_moves_fieldLink_14 rfl rfl dX5_moves_40 ?_
            refine lv_iconst (v := 1) hx hb dX5_moves_43 (by decide) ?_
            refine lv_iconst (v := (-1)) hx hb dX5_moves_44 (by decide) ?_
            refine lv_iconst (v := 0) hx hb dX5_moves_45 (by decide) ?_
            refine lv_iconst (v := (-1)) hx hb dX5_moves_46 (by decide) ?_
            refine lv_iload_n hx hb dX5_moves_47 rfl (lv_at hl 2 rfl) ?_
            refine ro_call (va_runV (As := [.int 1, .int (-1), .int 0, .int (-1), .int part]) (rest := []) hC (c_X4_shareLess l G ad wd 1 (-1) 0 (-1) part) (cwV 5 hts gX5_moves_X4_shareLess rfl rfl rfl kd_X4_shareLess ⟨Nat.le_of_ble_eq_true rfl, Nat.le_of_ble_eq_true rfl⟩) (ro_preV hK f_o rfl hW) rfl rfl hl.1 rfl (lv_room (Nat.le_of_ble_eq_true rfl)) dX5_moves_48 ⟨Nat.zero_le _, Nat.zero_le _⟩) ?_
            have hJ := J_4; (repeat rw [if_neg h_5] at hJ)
            first | exact hJ ls (lv_sub hl [0, 1, 2] rfl) | ((repeat rw [if_neg h_5] at hl); (repeat rw [if_neg h_5]); exact hJ ls (lv_sub hl [0, 1, 2] rfl))
          · refine lv_aload_n hx hb dX5_moves_24 rfl (lv_at hl 0 rfl) ?_
            refine r_get (C := RX5) (T := TX5) (N := 4) hx hb hts i_X5_moves_X5 hown hK f_c rfl 0 (by decide) k_X5_moves_fieldLink_14 rfl rfl dX5_moves_25 ?_
            refine lv_iconst (v := 0) hx hb dX5_moves_28 (by decide) ?_
            refine lv_iconst (v := 2) hx hb dX5_moves_29 (by decide) ?_
            refine lv_iconst (v := 0) hx hb dX5_moves_30 (by decide) ?_
            refine lv_iconst (v := 1) hx hb dX5_moves_31 (by decide) ?_
            refine lv_iload_n hx hb dX5_moves_32 rfl (lv_at hl 2 rfl) ?_
            refine ro_call (va_runV (As := [.int 0, .int 2, .int 0, .int 1, .int part]) (rest := []) hC (c_X4_shareLess l G ad wd 0 2 0 1 part) (cwV 5 hts gX5_moves_X4_shareLess rfl rfl rfl kd_X4_shareLess ⟨Nat.le_of_ble_eq_true rfl, Nat.le_of_ble_eq_true rfl⟩) (ro_preV hK f_o rfl hW) rfl rfl hl.1 rfl (lv_room (Nat.le_of_ble_eq_true rfl)) dX5_moves_33 ⟨Nat.zero_le _, Nat.zero_le _⟩) ?_
            refine lv_goto (tgt := 51) hx hb dX5_moves_36 (by decide) ?_
            have hJ := J_4; (repeat rw [if_pos h_5] at hJ)
            first | exact hJ ls (lv_sub hl [0, 1, 2] rfl) | ((repeat rw [if_pos h_5] at hl); (repeat rw [if_pos h_5]); exact hJ ls (lv_sub hl [0, 1, 2] rfl))
      · refine lv_ldc2 (v := (-9223372036854775808)) hx hb hown (hts _ k_X5_moves_constantLong_139) dX5_moves_16 ?_
        exact ro_lret hx hb hr hlocks dX5_moves_19 (by (try unfold s_moves); (repeat rw [if_neg h_1]); (repeat rw [if_neg h_2]); (repeat rw [if_neg h_3]); first | done | rfl)
theorem i_X5_fooled_X5 : ∀ w ∈ wsX50, w ∈ wsX5_fooled := fun _ h => List.mem_cons_of_mem _ (List.mem_append_left _ (List.mem_append_left _ (List.mem_append_right _ h)))
theorem k_X5_fooled_fieldLink_14 : Cond.fieldLink RX5 14 "SameWater" "now" "LSameWater$World;" ∈ wsX5_fooled := by decide +kernel
theorem kd_X4_fooledChildren : yX4_fooledChildren.cls = RX4 ∧ yX4_fooledChildren.cls ≠ "java/lang/invoke/MethodHandle" ∧ yX4_fooledChildren.cls ≠ "java/lang/invoke/VarHandle" ∧ (parseMethodDescriptor yX4_fooledChildren.desc).map (fun d => d.parameters.length) = some 0 := by decide +kernel
def s_fooled (wd : WT) : Int32 := w_fooledChildren wd
set_option maxHeartbeats 4000000 in
set_option maxRecDepth 100000 in
theorem c_X5_fooled (l : Launch) (G : GG) (AD ad td : Nat → Nat) (wd wt : WT) (tk : Bool) (rn : Int32) (bo : Nat → Int32)  : Met l yX5_fooled wsX5_fooled { frames := 3, cells := 0, slots := 0, locals := 66 } (roP G [.ref (AD 0)] (fun H => CAt G AD ad td wd wt tk rn bo H)) (roQ (some (.int (s_fooled wd)))) 0 0 nF := by
  refine Met.ofW (cc := cX5_fooled) (maxL := 1) (ret := (some .int)) (by decide) rfl ?_
  intro p e s m args below meth c s₁ Bd hml hv
  obtain ⟨rfl, hK, hB⟩ := hv
  have hx := Bd.exec
  have hb := Bd.bytes
  have hr := Bd.returns
  have hts := atoms_spec (ws := wsX5_fooled) Bd.pre
  have hown : s.vm.findClass RX5 = some m.cls := findClass_of_methodNamed Bd.named
  have hlocks := Bd.notSynchronized
  have hC : CallFix p m c cX5_fooled 1 s _ wsX5_fooled RX5 := ⟨hx, hb, hml, hown, hts⟩
  have hl := lv_entry ([.ref (AD 0)]) (n := 1) (Nat.le_of_ble_eq_true rfl)
  rw [lg_entry_eq]
  generalize (lg_sl ([.ref (AD 0)]) ++ List.replicate (1 - (lg_sl ([.ref (AD 0)])).length) Slot.unset).toArray = ls at hl ⊢
  have hl : lv_has ls 1 [(0, .ref (AD 0))] := hl
  have f_s := hB
  obtain ⟨f_c, hW, f_t, f_a, f_b⟩ := hB
  obtain ⟨f_o, f_ch, f_as, f_an, f_tp, ⟨qf, f_q, hqf⟩, f_lw, hlc⟩ := id hW
  refine lv_aload_n hx hb dX5_fooled_0 rfl (lv_at hl 0 rfl) ?_
  refine r_get (C := RX5) (T := TX5) (N := 4) hx hb hts i_X5_fooled_X5 hown hK f_c rfl 0 (by decide) k_X5_fooled_fieldLink_14 rfl rfl dX5_fooled_1 ?_
  refine ro_call (va_runV (As := []) (rest := []) hC (c_X4_fooledChildren l G ad wd) (cwV 0 hts gX5_fooled_X4_fooledChildren rfl rfl rfl kd_X4_fooledChildren ⟨Nat.le_of_ble_eq_true rfl, Nat.le_of_ble_eq_true rfl⟩) (ro_preV hK f_o rfl hW) rfl rfl hl.1 rfl (lv_room (Nat.le_of_ble_eq_true rfl)) dX5_fooled_4 ⟨Nat.zero_le _, Nat.zero_le _⟩) ?_
  exact ro_iret hx hb hr hlocks dX5_fooled_7 rfl
theorem i_X5_once_X5 : ∀ w ∈ wsX50, w ∈ wsX5_once := fun _ h => List.mem_cons_of_mem _ (List.mem_append_left _ (List.mem_append_left _ (List.mem_append_right _ h)))
theorem k_X5_once_fieldLink_14 : Cond.fieldLink RX5 14 "SameWater" "now" "LSameWater$World;" ∈ wsX5_once := by decide +kernel
theorem kd_X4_allAtOnce : yX4_allAtOnce.cls = RX4 ∧ yX4_allAtOnce.cls ≠ "java/lang/invoke/MethodHandle" ∧ yX4_allAtOnce.cls ≠ "java/lang/invoke/VarHandle" ∧ (parseMethodDescriptor yX4_allAtOnce.desc).map (fun d => d.parameters.length) = some 0 := by decide +kernel
def s_once (wd : WT) : Int32 := w_allAtOnce wd
set_option maxHeartbeats 4000000 in
set_option maxRecDepth 100000 in
theorem c_X5_once (l : Launch) (G : GG) (AD ad td : Nat → Nat) (wd wt : WT) (tk : Bool) (rn : Int32) (bo : Nat → Int32)  : Met l yX5_once wsX5_once { frames := 5, cells := 0, slots := 0, locals := 116 } (roP G [.ref (AD 0)] (fun H => CAt G AD ad td wd wt tk rn bo H)) (roQ (some (.int (s_once wd)))) 0 0 nF := by
  refine Met.ofW (cc := cX5_once) (maxL := 1) (ret := (some .int)) (by decide) rfl ?_
  intro p e s m args below meth c s₁ Bd hml hv
  obtain ⟨rfl, hK, hB⟩ := hv
  have hx := Bd.exec
  have hb := Bd.bytes
  have hr := Bd.returns
  have hts := atoms_spec (ws := wsX5_once) Bd.pre
  have hown : s.vm.findClass RX5 = some m.cls := findClass_of_methodNamed Bd.named
  have hlocks := Bd.notSynchronized
  have hC : CallFix p m c cX5_once 1 s _ wsX5_once RX5 := ⟨hx, hb, hml, hown, hts⟩
  have hl := lv_entry ([.ref (AD 0)]) (n := 1) (Nat.le_of_ble_eq_true rfl)
  rw [lg_entry_eq]
  generalize (lg_sl ([.ref (AD 0)]) ++ List.replicate (1 - (lg_sl ([.ref (AD 0)])).length) Slot.unset).toArray = ls at hl ⊢
  have hl : lv_has ls 1 [(0, .ref (AD 0))] := hl
  have f_s := hB
  obtain ⟨f_c, hW, f_t, f_a, f_b⟩ := hB
  obtain ⟨f_o, f_ch, f_as, f_an, f_tp, ⟨qf, f_q, hqf⟩, f_lw, hlc⟩ := id hW
  refine lv_aload_n hx hb dX5_once_0 rfl (lv_at hl 0 rfl) ?_
  refine r_get (C := RX5) (T := TX5) (N := 4) hx hb hts i_X5_once_X5 hown hK f_c rfl 0 (by decide) k_X5_once_fieldLink_14 rfl rfl dX5_once_1 ?_
  refine ro_call (va_runV (As := []) (rest := []) hC (c_X4_allAtOnce l G ad wd) (cwV 0 hts gX5_once_X4_allAtOnce rfl rfl rfl kd_X4_allAtOnce ⟨Nat.le_of_ble_eq_true rfl, Nat.le_of_ble_eq_true rfl⟩) (ro_preV hK f_o rfl hW) rfl rfl hl.1 rfl (lv_room (Nat.le_of_ble_eq_true rfl)) dX5_once_4 ⟨Nat.zero_le _, Nat.zero_le _⟩) ?_
  exact ro_iret hx hb hr hlocks dX5_once_7 rfl
theorem i_X5_order_X5 : ∀ w ∈ wsX50, w ∈ wsX5_order := fun _ h => List.mem_cons_of_mem _ (List.mem_append_left _ (List.mem_append_left _ (List.mem_append_right _ h)))
theorem k_X5_order_fieldLink_14 : Cond.fieldLink RX5 14 "SameWater" "now" "LSameWater$World;" ∈ wsX5_order := by decide +kernel
theorem kd_X4_shownBefore : yX4_shownBefore.cls = RX4 ∧ yX4_shownBefore.cls ≠ "java/lang/invoke/MethodHandle" ∧ yX4_shownBefore.cls ≠ "java/lang/invoke/VarHandle" ∧ (parseMethodDescriptor yX4_shownBefore.desc).map (fun d => d.parameters.length) = some 2 := by decide +kernel
def s_order (wd : WT) (kk : Int32) (jj : Int32) : Int32 := if (f_isStuff kk) = true then if (f_isStuff jj) = true then if kk = jj then (-2) else w_shownBefore wd kk jj else (-1) else (-1)
set_option maxHeartbeats 4000000 in
set_option maxRecDepth 100000 in
theorem c_X5_order (l : Launch) (G : GG) (AD ad td : Nat → Nat) (wd wt : WT) (tk : Bool) (rn : Int32) (bo : Nat → Int32) (kk : Int32) (jj : Int32)  : Met l yX5_order wsX5_order { frames := 4, cells := 0, slots := 0, locals := 93 } (roP G [.ref (AD 0), .int kk, .int jj] (fun H => CAt G AD ad td wd wt tk rn bo H)) (roQ (some (.int (s_order wd kk jj)))) 0 0 nF := by
  refine Met.ofW (cc := cX5_order) (maxL := 3) (ret := (some .int)) (by decide) rfl ?_
  intro p e s m args below meth c s₁ Bd hml hv
  obtain ⟨rfl, hK, hB⟩ := hv
  have hx := Bd.exec
  have hb := Bd.bytes
  have hr := Bd.returns
  have hts := atoms_spec (ws := wsX5_order) Bd.pre
  have hown : s.vm.findClass RX5 = some m.cls := findClass_of_methodNamed Bd.named
  have hlocks := Bd.notSynchronized
  have hC : CallFix p m c cX5_order 3 s _ wsX5_order RX5 := ⟨hx, hb, hml, hown, hts⟩
  have hl := lv_entry ([.ref (AD 0), .int kk, .int jj]) (n := 3) (Nat.le_of_ble_eq_true rfl)
  rw [lg_entry_eq]
  generalize (lg_sl ([.ref (AD 0), .int kk, .int jj]) ++ List.replicate (3 - (lg_sl ([.ref (AD 0), .int kk, .int jj])).length) Slot.unset).toArray = ls at hl ⊢
  have hl : lv_has ls 3 [(0, .ref (AD 0)), (1, .int kk), (2, .int jj)] := hl
  have f_s := hB
  obtain ⟨f_c, hW, f_t, f_a, f_b⟩ := hB
  obtain ⟨f_o, f_ch, f_as, f_an, f_tp, ⟨qf, f_q, hqf⟩, f_lw, hlc⟩ := id hW
  refine lv_iload_n hx hb dX5_order_0 rfl (lv_at hl 1 rfl) ?_
  refine ro_call (va_runS (As := [.int kk]) (rest := []) hC (c_X5_isStuff l G kk) (va_cwS 1 hts gX5_order_X5_isStuff rfl rfl rfl kd_X5_isStuff ⟨Nat.le_of_ble_eq_true rfl, Nat.le_of_ble_eq_true rfl⟩) (ro_preS hK trivial) rfl rfl hl.1 rfl (lv_room (Nat.le_of_ble_eq_true rfl)) dX5_order_1 ⟨Nat.zero_le _, Nat.zero_le _⟩) ?_
  refine bz_eq (tgt := 14) hx hb dX5_order_4 (by decide) (fun h_1 => ?_) (fun h_1 => ?_)
  · refine lv_iconst (v := (-1)) hx hb dX5_order_14 (by decide) ?_
    exact ro_iret hx hb hr hlocks dX5_order_15 (by (try unfold s_order); (repeat rw [if_neg h_1]); first | done | rfl)
  · refine lv_iload_n hx hb dX5_order_7 rfl (lv_at hl 2 rfl) ?_
    refine ro_call (va_runS (As := [.int jj]) (rest := []) hC (c_X5_isStuff l G jj) (va_cwS 1 hts gX5_order_X5_isStuff rfl rfl rfl kd_X5_isStuff ⟨Nat.le_of_ble_eq_true rfl, Nat.le_of_ble_eq_true rfl⟩) (ro_preS hK trivial) rfl rfl hl.1 rfl (lv_room (Nat.le_of_ble_eq_true rfl)) dX5_order_8 ⟨Nat.zero_le _, Nat.zero_le _⟩) ?_
    refine bz_ne (tgt := 16) hx hb dX5_order_11 (by decide) (fun h_2 => ?_) (fun h_2 => ?_)
    · refine lv_iload_n hx hb dX5_order_16 rfl (lv_at hl 1 rfl) ?_
      refine lv_iload_n hx hb dX5_order_17 rfl (lv_at hl 2 rfl) ?_
      refine join_at (nL := 3) 35 [(0, .ref (AD 0)), (1, .int kk), (2, .int jj)] [.int (if kk = jj then (-2) else w_shownBefore wd kk jj)] (fun ls hl => ?_) (fun J_3 => ?_)
      · exact ro_iret hx hb hr hlocks dX5_order_35 (by (try unfold s_order); (repeat rw [if_pos h_1]); (repeat rw [if_pos h_2]); first | done | rfl)
      · refine lv_icmp_ne (tgt := 26) hx hb dX5_order_18 (by decide) (fun h_4 => ?_) (fun h_4 => ?_)
        · refine lv_aload_n hx hb dX5_order_26 rfl (lv_at hl 0 rfl) ?_
          refine r_get (C := RX5) (T := TX5) (N := 4) hx hb hts i_X5_order_X5 hown hK f_c rfl 0 (by decide) k_X5_order_fieldLink_14 rfl rfl dX5_order_27 ?_
          refine lv_iload_n hx hb dX5_order_30 rfl (lv_at hl 1 rfl) ?_
          refine lv_iload_n hx hb dX5_order_31 rfl (lv_at hl 2 rfl) ?_
          refine ro_call (va_runV (As := [.int kk, .int jj]) (rest := []) hC (c_X4_shownBefore l G ad wd kk jj) (cwV 2 hts gX5_order_X4_shownBefore rfl rfl rfl kd_X4_shownBefore ⟨Nat.le_of_ble_eq_true rfl, Nat.le_of_ble_eq_true rfl⟩) (ro_preV hK f_o rfl hW) rfl rfl hl.1 rfl (lv_room (Nat.le_of_ble_eq_true rfl)) dX5_order_32 ⟨Nat.zero_le _, Nat.zero_le _⟩) ?_
          have hJ := J_3; (repeat rw [if_neg h_4] at hJ)
          first | exact hJ ls (lv_sub hl [0, 1, 2] rfl) | ((repeat rw [if_neg h_4] at hl); (repeat rw [if_neg h_4]); exact hJ ls (lv_sub hl [0, 1, 2] rfl))
        · refine lv_bipush (v := (-2)) hx hb dX5_order_21 (by decide +kernel) ?_
          refine lv_goto (tgt := 35) hx hb dX5_order_23 (by decide) ?_
          have hJ := J_3; (repeat rw [if_pos h_4] at hJ)
          first | exact hJ ls (lv_sub hl [0, 1, 2] rfl) | ((repeat rw [if_pos h_4] at hl); (repeat rw [if_pos h_4]); exact hJ ls (lv_sub hl [0, 1, 2] rfl))
    · refine lv_iconst (v := (-1)) hx hb dX5_order_14 (by decide) ?_
      exact ro_iret hx hb hr hlocks dX5_order_15 (by (try unfold s_order); (repeat rw [if_pos h_1]); (repeat rw [if_neg h_2]); first | done | rfl)
theorem i_X5_from_X5 : ∀ w ∈ wsX50, w ∈ wsX5_from := fun _ h => List.mem_cons_of_mem _ (List.mem_append_left _ (List.mem_append_left _ (List.mem_append_right _ h)))
theorem k_X5_from_fieldLink_14 : Cond.fieldLink RX5 14 "SameWater" "now" "LSameWater$World;" ∈ wsX5_from := by decide +kernel
theorem kd_X4_ageOf : yX4_ageOf.cls = RX4 ∧ yX4_ageOf.cls ≠ "java/lang/invoke/MethodHandle" ∧ yX4_ageOf.cls ≠ "java/lang/invoke/VarHandle" ∧ (parseMethodDescriptor yX4_ageOf.desc).map (fun d => d.parameters.length) = some 2 := by decide +kernel
def s_from (wd : WT) (stuff : Int32) (why : Bool) : Int32 := if (f_isStuff stuff) = true then w_ageOf wd stuff why else (-1)
set_option maxHeartbeats 4000000 in
set_option maxRecDepth 100000 in
theorem c_X5_from (l : Launch) (G : GG) (AD ad td : Nat → Nat) (wd wt : WT) (tk : Bool) (rn : Int32) (bo : Nat → Int32) (stuff : Int32) (why : Bool)  : Met l yX5_from wsX5_from { frames := 4, cells := 0, slots := 0, locals := 94 } (roP G [.ref (AD 0), .int stuff, .int (b2i why)] (fun H => CAt G AD ad td wd wt tk rn bo H)) (roQ (some (.int (s_from wd stuff why)))) 0 0 nF := by
  refine Met.ofW (cc := cX5_from) (maxL := 3) (ret := (some .int)) (by decide) rfl ?_
  intro p e s m args below meth c s₁ Bd hml hv
  obtain ⟨rfl, hK, hB⟩ := hv
  have hx := Bd.exec
  have hb := Bd.bytes
  have hr := Bd.returns
  have hts := atoms_spec (ws := wsX5_from) Bd.pre
  have hown : s.vm.findClass RX5 = some m.cls := findClass_of_methodNamed Bd.named
  have hlocks := Bd.notSynchronized
  have hC : CallFix p m c cX5_from 3 s _ wsX5_from RX5 := ⟨hx, hb, hml, hown, hts⟩
  have hl := lv_entry ([.ref (AD 0), .int stuff, .int (b2i why)]) (n := 3) (Nat.le_of_ble_eq_true rfl)
  rw [lg_entry_eq]
  generalize (lg_sl ([.ref (AD 0), .int stuff, .int (b2i why)]) ++ List.replicate (3 - (lg_sl ([.ref (AD 0), .int stuff, .int (b2i why)])).length) Slot.unset).toArray = ls at hl ⊢
  have hl : lv_has ls 3 [(0, .ref (AD 0)), (1, .int stuff), (2, .int (b2i why))] := hl
  have f_s := hB
  obtain ⟨f_c, hW, f_t, f_a, f_b⟩ := hB
  obtain ⟨f_o, f_ch, f_as, f_an, f_tp, ⟨qf, f_q, hqf⟩, f_lw, hlc⟩ := id hW
  refine lv_iload_n hx hb dX5_from_0 rfl (lv_at hl 1 rfl) ?_
  refine ro_call (va_runS (As := [.int stuff]) (rest := []) hC (c_X5_isStuff l G stuff) (va_cwS 1 hts gX5_from_X5_isStuff rfl rfl rfl kd_X5_isStuff ⟨Nat.le_of_ble_eq_true rfl, Nat.le_of_ble_eq_true rfl⟩) (ro_preS hK trivial) rfl rfl hl.1 rfl (lv_room (Nat.le_of_ble_eq_true rfl)) dX5_from_1 ⟨Nat.zero_le _, Nat.zero_le _⟩) ?_
  refine join_at (nL := 3) 20 [(0, .ref (AD 0)), (1, .int stuff), (2, .int (b2i why))] [.int (if (f_isStuff stuff) = true then w_ageOf wd stuff why else (-1))] (fun ls hl => ?_) (fun J_1 => ?_)
  · exact ro_iret hx hb hr hlocks dX5_from_20 rfl
  · refine bz_eq (tgt := 19) hx hb dX5_from_4 (by decide) (fun h_2 => ?_) (fun h_2 => ?_)
    · refine lv_iconst (v := (-1)) hx hb dX5_from_19 (by decide) ?_
      have hJ := J_1; (repeat rw [if_neg h_2] at hJ)
      first | exact hJ ls (lv_sub hl [0, 1, 2] rfl) | ((repeat rw [if_neg h_2] at hl); (repeat rw [if_neg h_2]); exact hJ ls (lv_sub hl [0, 1, 2] rfl))
    · refine lv_aload_n hx hb dX5_from_7 rfl (lv_at hl 0 rfl) ?_
      refine r_get (C := RX5) (T := TX5) (N := 4) hx hb hts i_X5_from_X5 hown hK f_c rfl 0 (by decide) k_X5_from_fieldLink_14 rfl rfl dX5_from_8 ?_
      refine lv_iload_n hx hb dX5_from_11 rfl (lv_at hl 1 rfl) ?_
      refine lv_iload_n hx hb dX5_from_12 rfl (lv_at hl 2 rfl) ?_
      refine ro_call (va_runV (As := [.int stuff, .int (b2i why)]) (rest := []) hC (c_X4_ageOf l G ad wd stuff why) (cwV 2 hts gX5_from_X4_ageOf rfl rfl rfl kd_X4_ageOf ⟨Nat.le_of_ble_eq_true rfl, Nat.le_of_ble_eq_true rfl⟩) (ro_preV hK f_o rfl hW) rfl rfl hl.1 rfl (lv_room (Nat.le_of_ble_eq_true rfl)) dX5_from_13 ⟨Nat.zero_le _, Nat.zero_le _⟩) ?_
      refine lv_goto (tgt := 20) hx hb dX5_from_16 (by decide) ?_
      have hJ := J_1; (repeat rw [if_pos h_2] at hJ)
      first | exact hJ ls (lv_sub hl [0, 1, 2] rfl) | ((repeat rw [if_pos h_2] at hl); (repeat rw [if_pos h_2]); exact hJ ls (lv_sub hl [0, 1, 2] rfl))
theorem i_X5_spread_X5 : ∀ w ∈ wsX50, w ∈ wsX5_spread := fun _ h => List.mem_cons_of_mem _ (List.mem_append_left _ (List.mem_append_left _ (List.mem_append_left _ (List.mem_append_right _ h))))
theorem k_X5_spread_fieldLink_14 : Cond.fieldLink RX5 14 "SameWater" "now" "LSameWater$World;" ∈ wsX5_spread := by decide +kernel
theorem i_X5_spread_X4 : ∀ w ∈ wsX40, w ∈ wsX5_spread := fun _ h => List.mem_cons_of_mem _ (List.mem_append_left _ (List.mem_append_left _ (List.mem_append_right _ h)))
theorem k_X5_spread_fieldLink_28 : Cond.fieldLink RX5 28 "SameWater$World" "children" "LSameWater$Rows;" ∈ wsX5_spread := by decide +kernel
theorem k_X5_spread_fieldLink_96 : Cond.fieldLink RX5 96 "SameWater$World" "laws" "[LSameWater$Law;" ∈ wsX5_spread := by decide +kernel
theorem kd_X4_isTaughtSome : yX4_isTaughtSome.cls = RX4 ∧ yX4_isTaughtSome.cls ≠ "java/lang/invoke/MethodHandle" ∧ yX4_isTaughtSome.cls ≠ "java/lang/invoke/VarHandle" ∧ (parseMethodDescriptor yX4_isTaughtSome.desc).map (fun d => d.parameters.length) = some 1 := by decide +kernel
def s_spread (wd : WT) (law : Int32) (child : Int32) (nn : Int32) : Int32 := if (w_hasLaw wd law) = true then if (f_has (wCh wd) child) = true then if nn < 0 then (-2) else if nn ≤ 99 then if (w_isTaughtSome wd child) = true then w_keptAt wd law.toNatClampNeg child ((f_at 5 (wCh wd) child 0) + nn) else (-3) else (-2) else (-1) else (-1)
set_option maxHeartbeats 4000000 in
set_option maxRecDepth 100000 in
theorem c_X5_spread (l : Launch) (G : GG) (AD ad td : Nat → Nat) (wd wt : WT) (tk : Bool) (rn : Int32) (bo : Nat → Int32) (law : Int32) (child : Int32) (nn : Int32)  : Met l yX5_spread wsX5_spread { frames := 2, cells := 0, slots := 0, locals := 48 } (roP G [.ref (AD 0), .int law, .int child, .int nn] (fun H => CAt G AD ad td wd wt tk rn bo H)) (roQ (some (.int (s_spread wd law child nn)))) 0 0 nF := by
  refine Met.ofW (cc := cX5_spread) (maxL := 4) (ret := (some .int)) (by decide) rfl ?_
  intro p e s m args below meth c s₁ Bd hml hv
  obtain ⟨rfl, hK, hB⟩ := hv
  have hx := Bd.exec
  have hb := Bd.bytes
  have hr := Bd.returns
  have hts := atoms_spec (ws := wsX5_spread) Bd.pre
  have hown : s.vm.findClass RX5 = some m.cls := findClass_of_methodNamed Bd.named
  have hlocks := Bd.notSynchronized
  have hC : CallFix p m c cX5_spread 4 s _ wsX5_spread RX5 := ⟨hx, hb, hml, hown, hts⟩
  have hl := lv_entry ([.ref (AD 0), .int law, .int child, .int nn]) (n := 4) (Nat.le_of_ble_eq_true rfl)
  rw [lg_entry_eq]
  generalize (lg_sl ([.ref (AD 0), .int law, .int child, .int nn]) ++ List.replicate (4 - (lg_sl ([.ref (AD 0), .int law, .int child, .int nn])).length) Slot.unset).toArray = ls at hl ⊢
  have hl : lv_has ls 4 [(0, .ref (AD 0)), (1, .int law), (2, .int child), (3, .int nn)] := hl
  have f_s := hB
  obtain ⟨f_c, hW, f_t, f_a, f_b⟩ := hB
  obtain ⟨f_o, f_ch, f_as, f_an, f_tp, ⟨qf, f_q, hqf⟩, f_lw, hlc⟩ := id hW
  refine lv_aload_n hx hb dX5_spread_0 rfl (lv_at hl 0 rfl) ?_
  refine r_get (C := RX5) (T := TX5) (N := 4) hx hb hts i_X5_spread_X5 hown hK f_c rfl 0 (by decide) k_X5_spread_fieldLink_14 rfl rfl dX5_spread_1 ?_
  refine lv_iload_n hx hb dX5_spread_4 rfl (lv_at hl 1 rfl) ?_
  refine ro_call (va_runV (As := [.int law]) (rest := []) hC (c_X4_hasLaw l G ad wd law) (cwV 1 hts gX5_spread_X4_hasLaw rfl rfl rfl kd_X4_hasLaw ⟨Nat.le_of_ble_eq_true rfl, Nat.le_of_ble_eq_true rfl⟩) (ro_preV hK f_o rfl hW) rfl rfl hl.1 rfl (lv_room (Nat.le_of_ble_eq_true rfl)) dX5_spread_5 ⟨Nat.zero_le _, Nat.zero_le _⟩) ?_
  refine bz_eq (tgt := 25) hx hb dX5_spread_8 (by decide) (fun h_1 => ?_) (fun h_1 => ?_)
  · refine lv_iconst (v := (-1)) hx hb dX5_spread_25 (by decide) ?_
    exact ro_iret hx hb hr hlocks dX5_spread_26 (by (try unfold s_spread); (repeat rw [if_neg h_1]); first | done | rfl)
  · refine lv_aload_n hx hb dX5_spread_11 rfl (lv_at hl 0 rfl) ?_
    refine r_get (C := RX5) (T := TX5) (N := 4) hx hb hts i_X5_spread_X5 hown hK f_c rfl 0 (by decide) k_X5_spread_fieldLink_14 rfl rfl dX5_spread_12 ?_
    refine r_get (C := RX4) (T := TX4) (N := 6) hx hb hts i_X5_spread_X4 hown hK f_o rfl 0 (by decide) k_X5_spread_fieldLink_28 rfl rfl dX5_spread_15 ?_
    refine lv_iload_n hx hb dX5_spread_18 rfl (lv_at hl 2 rfl) ?_
    refine ro_call (va_runV (As := [.int child]) (rest := []) hC (c_X2_has l G (ad 1) (ad 2) 8 5 (wCh wd) child) (cwV 1 hts gX5_spread_X2_has rfl rfl rfl kd_X2_has ⟨Nat.le_of_ble_eq_true rfl, Nat.le_of_ble_eq_true rfl⟩) (ro_preV hK f_ch.1 rfl f_ch) rfl rfl hl.1 rfl (lv_room (Nat.le_of_ble_eq_true rfl)) dX5_spread_19 ⟨Nat.zero_le _, Nat.zero_le _⟩) ?_
    refine bz_ne (tgt := 27) hx hb dX5_spread_22 (by decide) (fun h_2 => ?_) (fun h_2 => ?_)
    · refine lv_iload_n hx hb dX5_spread_27 rfl (lv_at hl 3 rfl) ?_
      refine lv_if_lt (tgt := 37) hx hb dX5_spread_28 (by decide) (fun h_3 => ?_) (fun h_3 => ?_)
      · refine lv_bipush (v := (-2)) hx hb dX5_spread_37 (by decide +kernel) ?_
        exact ro_iret hx hb hr hlocks dX5_spread_39 (by (try unfold s_spread); (repeat rw [if_pos h_1]); (repeat rw [if_pos h_2]); (repeat rw [if_pos h_3]); first | done | rfl)
      · refine lv_iload_n hx hb dX5_spread_31 rfl (lv_at hl 3 rfl) ?_
        refine lv_bipush (v := 99) hx hb dX5_spread_32 (by decide +kernel) ?_
        refine lv_icmp_le (tgt := 40) hx hb dX5_spread_34 (by decide) (fun h_4 => ?_) (fun h_4 => ?_)
        · refine lv_aload_n hx hb dX5_spread_40 rfl (lv_at hl 0 rfl) ?_
          refine r_get (C := RX5) (T := TX5) (N := 4) hx hb hts i_X5_spread_X5 hown hK f_c rfl 0 (by decide) k_X5_spread_fieldLink_14 rfl rfl dX5_spread_41 ?_
          refine lv_iload_n hx hb dX5_spread_44 rfl (lv_at hl 2 rfl) ?_
          refine ro_call (va_runV (As := [.int child]) (rest := []) hC (c_X4_isTaughtSome l G ad wd child) (cwV 1 hts gX5_spread_X4_isTaughtSome rfl rfl rfl kd_X4_isTaughtSome ⟨Nat.le_of_ble_eq_true rfl, Nat.le_of_ble_eq_true rfl⟩) (ro_preV hK f_o rfl hW) rfl rfl hl.1 rfl (lv_room (Nat.le_of_ble_eq_true rfl)) dX5_spread_45 ⟨Nat.zero_le _, Nat.zero_le _⟩) ?_
          refine join_at (nL := 4) 87 [(0, .ref (AD 0)), (1, .int law), (2, .int child), (3, .int nn)] [.int (if (w_isTaughtSome wd child) = true then w_keptAt wd law.toNatClampNeg child ((f_at 5 (wCh wd) child 0) + nn) else (-3))] (fun ls hl => ?_) (fun J_5 => ?_)
          · exact ro_iret hx hb hr hlocks dX5_spread_87 (by (try unfold s_spread); (repeat rw [if_pos h_1]); (repeat rw [if_pos h_2]); (repeat rw [if_neg h_3]); (repeat rw [if_pos h_4]); first | done | rfl)
          · refine bz_eq (tgt := 85) hx hb dX5_spread_48 (by decide) (fun h_6 => ?_) (fun h_6 => ?_)
            · refine lv_bipush (v := (-3)) hx hb dX5_spread_85 (by decide +kernel) ?_
              have hJ := J_5; (repeat rw [if_neg h_6] at hJ)
              first | exact hJ ls (lv_sub hl [0, 1, 2, 3] rfl) | ((repeat rw [if_neg h_6] at hl); (repeat rw [if_neg h_6]); exact hJ ls (lv_sub hl [0, 1, 2, 3] rfl))
            · refine lv_aload_n hx hb dX5_spread_51 rfl (lv_at hl 0 rfl) ?_
              refine r_get (C := RX5) (T := TX5) (N := 4) hx hb hts i_X5_spread_X5 hown hK f_c rfl 0 (by decide) k_X5_spread_fieldLink_14 rfl rfl dX5_spread_52 ?_
              refine lv_aload_n hx hb dX5_spread_55 rfl (lv_at hl 0 rfl) ?_
              refine r_get (C := RX5) (T := TX5) (N := 4) hx hb hts i_X5_spread_X5 hown hK f_c rfl 0 (by decide) k_X5_spread_fieldLink_14 rfl rfl dX5_spread_56 ?_
              refine r_get (C := RX4) (T := TX4) (N := 6) hx hb hts i_X5_spread_X4 hown hK f_o rfl 4 (by decide) k_X5_spread_fieldLink_96 rfl rfl dX5_spread_59 ?_
              refine lv_iload_n hx hb dX5_spread_62 rfl (lv_at hl 1 rfl) ?_
              refine r_qald hx hb hK f_q (hasLaw_in h_1) (hqf _ (vp_lt (hasLaw_in h_1))) dX5_spread_63 ?_
              refine lv_iload_n hx hb dX5_spread_64 rfl (lv_at hl 2 rfl) ?_
              refine lv_aload_n hx hb dX5_spread_65 rfl (lv_at hl 0 rfl) ?_
              refine r_get (C := RX5) (T := TX5) (N := 4) hx hb hts i_X5_spread_X5 hown hK f_c rfl 0 (by decide) k_X5_spread_fieldLink_14 rfl rfl dX5_spread_66 ?_
              refine r_get (C := RX4) (T := TX4) (N := 6) hx hb hts i_X5_spread_X4 hown hK f_o rfl 0 (by decide) k_X5_spread_fieldLink_28 rfl rfl dX5_spread_69 ?_
              refine lv_iload_n hx hb dX5_spread_72 rfl (lv_at hl 2 rfl) ?_
              refine lv_iconst (v := 0) hx hb dX5_spread_73 (by decide) ?_
              refine ro_call (va_runV (As := [.int child, .int 0]) (rest := [.int child, .ref (ad (10 + 5 * law.toNatClampNeg)), .ref (ad 0)]) hC (c_X2_at l G (ad 1) (ad 2) 8 5 (wCh wd) child 0) (cwV 2 hts gX5_spread_X2_at rfl rfl rfl kd_X2_at ⟨Nat.le_of_ble_eq_true rfl, Nat.le_of_ble_eq_true rfl⟩) (ro_preV hK f_ch.1 rfl f_ch) rfl rfl hl.1 rfl (lv_room (Nat.le_of_ble_eq_true rfl)) dX5_spread_74 ⟨Nat.zero_le _, Nat.zero_le _⟩) ?_
              refine lv_iload_n hx hb dX5_spread_77 rfl (lv_at hl 3 rfl) ?_
              refine lv_iadd hx hb dX5_spread_78 ?_
              refine ro_call (va_runV (As := [.ref (ad (10 + 5 * law.toNatClampNeg)), .int child, .int ((f_at 5 (wCh wd) child 0) + nn)]) (rest := []) hC (c_X4_keptAt l G ad wd law.toNatClampNeg child ((f_at 5 (wCh wd) child 0) + nn) (vp_lt (hasLaw_in h_1))) (cwV 3 hts gX5_spread_X4_keptAt rfl rfl rfl kd_X4_keptAt ⟨Nat.le_of_ble_eq_true rfl, Nat.le_of_ble_eq_true rfl⟩) (ro_preV hK f_o rfl hW) rfl rfl hl.1 rfl (lv_room (Nat.le_of_ble_eq_true rfl)) dX5_spread_79 ⟨Nat.zero_le _, Nat.zero_le _⟩) ?_
              refine lv_goto (tgt := 87) hx hb dX5_spread_82 (by decide) ?_
              have hJ := J_5; (repeat rw [if_pos h_6] at hJ)
              first | exact hJ ls (lv_sub hl [0, 1, 2, 3] rfl) | ((repeat rw [if_pos h_6] at hl); (repeat rw [if_pos h_6]); exact hJ ls (lv_sub hl [0, 1, 2, 3] rfl))
        · refine lv_bipush (v := (-2)) hx hb dX5_spread_37 (by decide +kernel) ?_
          exact ro_iret hx hb hr hlocks dX5_spread_39 (by (try unfold s_spread); (repeat rw [if_pos h_1]); (repeat rw [if_pos h_2]); (repeat rw [if_neg h_3]); (repeat rw [if_neg h_4]); first | done | rfl)
    · refine lv_iconst (v := (-1)) hx hb dX5_spread_25 (by decide) ?_
      exact ro_iret hx hb hr hlocks dX5_spread_26 (by (try unfold s_spread); (repeat rw [if_pos h_1]); (repeat rw [if_neg h_2]); first | done | rfl)
theorem i_X5_trace_X5 : ∀ w ∈ wsX50, w ∈ wsX5_trace := fun _ h => List.mem_cons_of_mem _ (List.mem_append_left _ (List.mem_append_right _ h))
theorem k_X5_trace_fieldLink_24 : Cond.fieldLink RX5 24 "SameWater" "acts" "LSameWater$Acts;" ∈ wsX5_trace := by decide +kernel
theorem i_X5_trace_X0 : ∀ w ∈ wsX00, w ∈ wsX5_trace := fun _ h => List.mem_cons_of_mem _ (List.mem_append_right _ h)
theorem k_X5_trace_fieldLink_199 : Cond.fieldLink RX5 199 "SameWater$Acts" "ran" "I" ∈ wsX5_trace := by decide +kernel
theorem k_X5_trace_fieldLink_206 : Cond.fieldLink RX5 206 "SameWater$Acts" "bodies" "[I" ∈ wsX5_trace := by decide +kernel
def s_trace (wd : WT) (rn : Int32) (bo : Nat → Int32) (ii : Int32) : Int32 := if ii < 0 then (-1) else if 20 ≤ ii then (-1) else if rn ≤ ii then (-1) else bo ii.toNatClampNeg
set_option maxHeartbeats 4000000 in
set_option maxRecDepth 100000 in
theorem c_X5_trace (l : Launch) (G : GG) (AD ad td : Nat → Nat) (wd wt : WT) (tk : Bool) (rn : Int32) (bo : Nat → Int32) (ii : Int32)  : Met l yX5_trace wsX5_trace { frames := 0, cells := 0, slots := 0, locals := 0 } (roP G [.ref (AD 0), .int ii] (fun H => CAt G AD ad td wd wt tk rn bo H)) (roQ (some (.int (s_trace wd rn bo ii)))) 0 0 nF := by
  refine Met.ofW (cc := cX5_trace) (maxL := 2) (ret := (some .int)) (by decide) rfl ?_
  intro p e s m args below meth c s₁ Bd hml hv
  obtain ⟨rfl, hK, hB⟩ := hv
  have hx := Bd.exec
  have hb := Bd.bytes
  have hr := Bd.returns
  have hts := atoms_spec (ws := wsX5_trace) Bd.pre
  have hown : s.vm.findClass RX5 = some m.cls := findClass_of_methodNamed Bd.named
  have hlocks := Bd.notSynchronized
  have hC : CallFix p m c cX5_trace 2 s _ wsX5_trace RX5 := ⟨hx, hb, hml, hown, hts⟩
  have hl := lv_entry ([.ref (AD 0), .int ii]) (n := 2) (Nat.le_of_ble_eq_true rfl)
  rw [lg_entry_eq]
  generalize (lg_sl ([.ref (AD 0), .int ii]) ++ List.replicate (2 - (lg_sl ([.ref (AD 0), .int ii])).length) Slot.unset).toArray = ls at hl ⊢
  have hl : lv_has ls 2 [(0, .ref (AD 0)), (1, .int ii)] := hl
  have f_s := hB
  obtain ⟨f_c, hW, f_t, f_a, f_b⟩ := hB
  obtain ⟨f_o, f_ch, f_as, f_an, f_tp, ⟨qf, f_q, hqf⟩, f_lw, hlc⟩ := id hW
  refine lv_iload_n hx hb dX5_trace_0 rfl (lv_at hl 1 rfl) ?_
  refine join_at (nL := 2) 34 [(0, .ref (AD 0)), (1, .int ii)] [.int (if ii < 0 then (-1) else if 20 ≤ ii then (-1) else if rn ≤ ii then (-1) else bo ii.toNatClampNeg)] (fun ls hl => ?_) (fun J_1 => ?_)
  · exact ro_iret hx hb hr hlocks dX5_trace_34 rfl
  · refine lv_if_lt (tgt := 33) hx hb dX5_trace_1 (by decide) (fun h_2 => ?_) (fun h_2 => ?_)
    · refine lv_iconst (v := (-1)) hx hb dX5_trace_33 (by decide) ?_
      have hJ := J_1; (repeat rw [if_pos h_2] at hJ)
      first | exact hJ ls (lv_sub hl [0, 1] rfl) | ((repeat rw [if_pos h_2] at hl); (repeat rw [if_pos h_2]); exact hJ ls (lv_sub hl [0, 1] rfl))
    · refine lv_iload_n hx hb dX5_trace_4 rfl (lv_at hl 1 rfl) ?_
      refine lv_bipush (v := 20) hx hb dX5_trace_5 (by decide +kernel) ?_
      refine lv_icmp_ge (tgt := 33) hx hb dX5_trace_7 (by decide) (fun h_3 => ?_) (fun h_3 => ?_)
      · refine lv_iconst (v := (-1)) hx hb dX5_trace_33 (by decide) ?_
        have hJ := J_1; (repeat rw [if_neg h_2] at hJ); (repeat rw [if_pos h_3] at hJ)
        first | exact hJ ls (lv_sub hl [0, 1] rfl) | ((repeat rw [if_neg h_2] at hl); (repeat rw [if_pos h_3] at hl); (repeat rw [if_neg h_2]); (repeat rw [if_pos h_3]); exact hJ ls (lv_sub hl [0, 1] rfl))
      · refine lv_iload_n hx hb dX5_trace_10 rfl (lv_at hl 1 rfl) ?_
        refine lv_aload_n hx hb dX5_trace_11 rfl (lv_at hl 0 rfl) ?_
        refine r_get (C := RX5) (T := TX5) (N := 4) hx hb hts i_X5_trace_X5 hown hK f_c rfl 3 (by decide) k_X5_trace_fieldLink_24 rfl rfl dX5_trace_12 ?_
        refine r_get (C := RX0) (T := TX0) (N := 2) hx hb hts i_X5_trace_X0 hown hK f_a rfl 1 (by decide) k_X5_trace_fieldLink_199 rfl rfl dX5_trace_15 ?_
        refine lv_icmp_ge (tgt := 33) hx hb dX5_trace_18 (by decide) (fun h_4 => ?_) (fun h_4 => ?_)
        · refine lv_iconst (v := (-1)) hx hb dX5_trace_33 (by decide) ?_
          have hJ := J_1; (repeat rw [if_neg h_2] at hJ); (repeat rw [if_neg h_3] at hJ); (repeat rw [if_pos h_4] at hJ)
          first | exact hJ ls (lv_sub hl [0, 1] rfl) | ((repeat rw [if_neg h_2] at hl); (repeat rw [if_neg h_3] at hl); (repeat rw [if_pos h_4] at hl); (repeat rw [if_neg h_2]); (repeat rw [if_neg h_3]); (repeat rw [if_pos h_4]); exact hJ ls (lv_sub hl [0, 1] rfl))
        · refine lv_aload_n hx hb dX5_trace_21 rfl (lv_at hl 0 rfl) ?_
          refine r_get (C := RX5) (T := TX5) (N := 4) hx hb hts i_X5_trace_X5 hown hK f_c rfl 3 (by decide) k_X5_trace_fieldLink_24 rfl rfl dX5_trace_22 ?_
          refine r_get (C := RX0) (T := TX0) (N := 2) hx hb hts i_X5_trace_X0 hown hK f_a rfl 0 (by decide) k_X5_trace_fieldLink_206 rfl rfl dX5_trace_25 ?_
          refine lv_iload_n hx hb dX5_trace_28 rfl (lv_at hl 1 rfl) ?_
          refine r_iald hx hb hK f_b (vp_of (n := 20) rfl h_2 h_3 (by decide)) dX5_trace_29 ?_
          refine lv_goto (tgt := 34) hx hb dX5_trace_30 (by decide) ?_
          have hJ := J_1; (repeat rw [if_neg h_2] at hJ); (repeat rw [if_neg h_3] at hJ); (repeat rw [if_neg h_4] at hJ)
          first | exact hJ ls (lv_sub hl [0, 1] rfl) | ((repeat rw [if_neg h_2] at hl); (repeat rw [if_neg h_3] at hl); (repeat rw [if_neg h_4] at hl); (repeat rw [if_neg h_2]); (repeat rw [if_neg h_3]); (repeat rw [if_neg h_4]); exact hJ ls (lv_sub hl [0, 1] rfl))
theorem i_X5_count_X5 : ∀ w ∈ wsX50, w ∈ wsX5_count := fun _ h => List.mem_cons_of_mem _ (List.mem_append_left _ (List.mem_append_left _ (List.mem_append_left _ (List.mem_append_left _ (List.mem_append_right _ h)))))
theorem k_X5_count_fieldLink_14 : Cond.fieldLink RX5 14 "SameWater" "now" "LSameWater$World;" ∈ wsX5_count := by decide +kernel
theorem i_X5_count_X4 : ∀ w ∈ wsX40, w ∈ wsX5_count := fun _ h => List.mem_cons_of_mem _ (List.mem_append_left _ (List.mem_append_left _ (List.mem_append_left _ (List.mem_append_right _ h))))
theorem k_X5_count_fieldLink_28 : Cond.fieldLink RX5 28 "SameWater$World" "children" "LSameWater$Rows;" ∈ wsX5_count := by decide +kernel
theorem i_X5_count_X2 : ∀ w ∈ wsX20, w ∈ wsX5_count := fun _ h => List.mem_cons_of_mem _ (List.mem_append_left _ (List.mem_append_left _ (List.mem_append_right _ h)))
theorem k_X5_count_fieldLink_54 : Cond.fieldLink RX5 54 "SameWater$Rows" "size" "I" ∈ wsX5_count := by decide +kernel
theorem k_X5_count_fieldLink_61 : Cond.fieldLink RX5 61 "SameWater$World" "askings" "LSameWater$Rows;" ∈ wsX5_count := by decide +kernel
theorem k_X5_count_fieldLink_72 : Cond.fieldLink RX5 72 "SameWater$World" "answers" "LSameWater$Rows;" ∈ wsX5_count := by decide +kernel
theorem k_X5_count_fieldLink_93 : Cond.fieldLink RX5 93 "SameWater$World" "lawCount" "I" ∈ wsX5_count := by decide +kernel
theorem k_X5_count_fieldLink_79 : Cond.fieldLink RX5 79 "SameWater$World" "tape" "LSameWater$Tape;" ∈ wsX5_count := by decide +kernel
theorem i_X5_count_X3 : ∀ w ∈ wsX30, w ∈ wsX5_count := fun _ h => List.mem_cons_of_mem _ (List.mem_append_left _ (List.mem_append_right _ h))
theorem k_X5_count_fieldLink_89 : Cond.fieldLink RX5 89 "SameWater$Tape" "size" "I" ∈ wsX5_count := by decide +kernel
theorem k_X5_count_fieldLink_24 : Cond.fieldLink RX5 24 "SameWater" "acts" "LSameWater$Acts;" ∈ wsX5_count := by decide +kernel
theorem i_X5_count_X0 : ∀ w ∈ wsX00, w ∈ wsX5_count := fun _ h => List.mem_cons_of_mem _ (List.mem_append_right _ h)
theorem k_X5_count_fieldLink_199 : Cond.fieldLink RX5 199 "SameWater$Acts" "ran" "I" ∈ wsX5_count := by decide +kernel
def s_count (wd : WT) (rn : Int32) (what : Int32) : Int32 := if what = 0 then nI (wCh wd).1 else if what = 1 then nI (wAs wd).1 else if what = 2 then nI (wAn wd).1 else if what = 3 then nI (wLc wd) else if what = 4 then nI (wTp wd).1 else if what = 5 then rn else (-1)
set_option maxHeartbeats 4000000 in
set_option maxRecDepth 100000 in
theorem c_X5_count (l : Launch) (G : GG) (AD ad td : Nat → Nat) (wd wt : WT) (tk : Bool) (rn : Int32) (bo : Nat → Int32) (what : Int32)  : Met l yX5_count wsX5_count { frames := 0, cells := 0, slots := 0, locals := 0 } (roP G [.ref (AD 0), .int what] (fun H => CAt G AD ad td wd wt tk rn bo H)) (roQ (some (.int (s_count wd rn what)))) 0 0 nF := by
  refine Met.ofW (cc := cX5_count) (maxL := 2) (ret := (some .int)) (by decide) rfl ?_
  intro p e s m args below meth c s₁ Bd hml hv
  obtain ⟨rfl, hK, hB⟩ := hv
  have hx := Bd.exec
  have hb := Bd.bytes
  have hr := Bd.returns
  have hts := atoms_spec (ws := wsX5_count) Bd.pre
  have hown : s.vm.findClass RX5 = some m.cls := findClass_of_methodNamed Bd.named
  have hlocks := Bd.notSynchronized
  have hC : CallFix p m c cX5_count 2 s _ wsX5_count RX5 := ⟨hx, hb, hml, hown, hts⟩
  have hl := lv_entry ([.ref (AD 0), .int what]) (n := 2) (Nat.le_of_ble_eq_true rfl)
  rw [lg_entry_eq]
  generalize (lg_sl ([.ref (AD 0), .int what]) ++ List.replicate (2 - (lg_sl ([.ref (AD 0), .int what])).length) Slot.unset).toArray = ls at hl ⊢
  have hl : lv_has ls 2 [(0, .ref (AD 0)), (1, .int what)] := hl
  have f_s := hB
  obtain ⟨f_c, hW, f_t, f_a, f_b⟩ := hB
  obtain ⟨f_o, f_ch, f_as, f_an, f_tp, ⟨qf, f_q, hqf⟩, f_lw, hlc⟩ := id hW
  refine lv_iload_n hx hb dX5_count_0 rfl (lv_at hl 1 rfl) ?_
  rcases Classical.em (what = 0) with h_1 | h_1
  · refine lv_tableIn (off := 39) (tgt := 40) hx hb dX5_count_1 (by rw [h_1]; decide) (by rw [h_1]; decide) (by rw [h_1]; rfl) (by decide) ?_
    refine lv_aload_n hx hb dX5_count_40 rfl (lv_at hl 0 rfl) ?_
    refine r_get (C := RX5) (T := TX5) (N := 4) hx hb hts i_X5_count_X5 hown hK f_c rfl 0 (by decide) k_X5_count_fieldLink_14 rfl rfl dX5_count_41 ?_
    refine r_get (C := RX4) (T := TX4) (N := 6) hx hb hts i_X5_count_X4 hown hK f_o rfl 0 (by decide) k_X5_count_fieldLink_28 rfl rfl dX5_count_44 ?_
    refine r_get (C := RX2) (T := TX2) (N := 4) hx hb hts i_X5_count_X2 hown hK f_ch.1 rfl 3 (by decide) k_X5_count_fieldLink_54 rfl rfl dX5_count_47 ?_
    exact ro_iret hx hb hr hlocks dX5_count_50 (by (try unfold s_count); (repeat rw [if_pos h_1]); first | done | rfl)
  · rcases Classical.em (what = 1) with h_2 | h_2
    · refine lv_tableIn (off := 50) (tgt := 51) hx hb dX5_count_1 (by rw [h_2]; decide) (by rw [h_2]; decide) (by rw [h_2]; rfl) (by decide) ?_
      refine lv_aload_n hx hb dX5_count_51 rfl (lv_at hl 0 rfl) ?_
      refine r_get (C := RX5) (T := TX5) (N := 4) hx hb hts i_X5_count_X5 hown hK f_c rfl 0 (by decide) k_X5_count_fieldLink_14 rfl rfl dX5_count_52 ?_
      refine r_get (C := RX4) (T := TX4) (N := 6) hx hb hts i_X5_count_X4 hown hK f_o rfl 1 (by decide) k_X5_count_fieldLink_61 rfl rfl dX5_count_55 ?_
      refine r_get (C := RX2) (T := TX2) (N := 4) hx hb hts i_X5_count_X2 hown hK f_as.1 rfl 3 (by decide) k_X5_count_fieldLink_54 rfl rfl dX5_count_58 ?_
      exact ro_iret hx hb hr hlocks dX5_count_61 (by (try unfold s_count); (repeat rw [if_neg h_1]); (repeat rw [if_pos h_2]); first | done | rfl)
    · rcases Classical.em (what = 2) with h_3 | h_3
      · refine lv_tableIn (off := 61) (tgt := 62) hx hb dX5_count_1 (by rw [h_3]; decide) (by rw [h_3]; decide) (by rw [h_3]; rfl) (by decide) ?_
        refine lv_aload_n hx hb dX5_count_62 rfl (lv_at hl 0 rfl) ?_
        refine r_get (C := RX5) (T := TX5) (N := 4) hx hb hts i_X5_count_X5 hown hK f_c rfl 0 (by decide) k_X5_count_fieldLink_14 rfl rfl dX5_count_63 ?_
        refine r_get (C := RX4) (T := TX4) (N := 6) hx hb hts i_X5_count_X4 hown hK f_o rfl 2 (by decide) k_X5_count_fieldLink_72 rfl rfl dX5_count_66 ?_
        refine r_get (C := RX2) (T := TX2) (N := 4) hx hb hts i_X5_count_X2 hown hK f_an.1 rfl 3 (by decide) k_X5_count_fieldLink_54 rfl rfl dX5_count_69 ?_
        exact ro_iret hx hb hr hlocks dX5_count_72 (by (try unfold s_count); (repeat rw [if_neg h_1]); (repeat rw [if_neg h_2]); (repeat rw [if_pos h_3]); first | done | rfl)
      · rcases Classical.em (what = 3) with h_4 | h_4
        · refine lv_tableIn (off := 72) (tgt := 73) hx hb dX5_count_1 (by rw [h_4]; decide) (by rw [h_4]; decide) (by rw [h_4]; rfl) (by decide) ?_
          refine lv_aload_n hx hb dX5_count_73 rfl (lv_at hl 0 rfl) ?_
          refine r_get (C := RX5) (T := TX5) (N := 4) hx hb hts i_X5_count_X5 hown hK f_c rfl 0 (by decide) k_X5_count_fieldLink_14 rfl rfl dX5_count_74 ?_
          refine r_get (C := RX4) (T := TX4) (N := 6) hx hb hts i_X5_count_X4 hown hK f_o rfl 5 (by decide) k_X5_count_fieldLink_93 rfl rfl dX5_count_77 ?_
          exact ro_iret hx hb hr hlocks dX5_count_80 (by (try unfold s_count); (repeat rw [if_neg h_1]); (repeat rw [if_neg h_2]); (repeat rw [if_neg h_3]); (repeat rw [if_pos h_4]); first | done | rfl)
        · rcases Classical.em (what = 4) with h_5 | h_5
          · refine lv_tableIn (off := 80) (tgt := 81) hx hb dX5_count_1 (by rw [h_5]; decide) (by rw [h_5]; decide) (by rw [h_5]; rfl) (by decide) ?_
            refine lv_aload_n hx hb dX5_count_81 rfl (lv_at hl 0 rfl) ?_
            refine r_get (C := RX5) (T := TX5) (N := 4) hx hb hts i_X5_count_X5 hown hK f_c rfl 0 (by decide) k_X5_count_fieldLink_14 rfl rfl dX5_count_82 ?_
            refine r_get (C := RX4) (T := TX4) (N := 6) hx hb hts i_X5_count_X4 hown hK f_o rfl 3 (by decide) k_X5_count_fieldLink_79 rfl rfl dX5_count_85 ?_
            refine r_get (C := RX3) (T := TX3) (N := 3) hx hb hts i_X5_count_X3 hown hK f_tp.1 rfl 1 (by decide) k_X5_count_fieldLink_89 rfl rfl dX5_count_88 ?_
            exact ro_iret hx hb hr hlocks dX5_count_91 (by (try unfold s_count); (repeat rw [if_neg h_1]); (repeat rw [if_neg h_2]); (repeat rw [if_neg h_3]); (repeat rw [if_neg h_4]); (repeat rw [if_pos h_5]); first | done | rfl)
          · rcases Classical.em (what = 5) with h_6 | h_6
            · refine lv_tableIn (off := 91) (tgt := 92) hx hb dX5_count_1 (by rw [h_6]; decide) (by rw [h_6]; decide) (by rw [h_6]; rfl) (by decide) ?_
              refine lv_aload_n hx hb dX5_count_92 rfl (lv_at hl 0 rfl) ?_
              refine r_get (C := RX5) (T := TX5) (N := 4) hx hb hts i_X5_count_X5 hown hK f_c rfl 3 (by decide) k_X5_count_fieldLink_24 rfl rfl dX5_count_93 ?_
              refine r_get (C := RX0) (T := TX0) (N := 2) hx hb hts i_X5_count_X0 hown hK f_a rfl 1 (by decide) k_X5_count_fieldLink_199 rfl rfl dX5_count_96 ?_
              exact ro_iret hx hb hr hlocks dX5_count_99 (by (try unfold s_count); (repeat rw [if_neg h_1]); (repeat rw [if_neg h_2]); (repeat rw [if_neg h_3]); (repeat rw [if_neg h_4]); (repeat rw [if_neg h_5]); (repeat rw [if_pos h_6]); first | done | rfl)
            · refine lv_tableOut (tgt := 100) hx hb dX5_count_1 (by have z0 := lv_neT h_1 (a := 0) rfl; have z1 := lv_neT h_2 (a := 1) rfl; have z2 := lv_neT h_3 (a := 2) rfl; have z3 := lv_neT h_4 (a := 3) rfl; have z4 := lv_neT h_5 (a := 4) rfl; have z5 := lv_neT h_6 (a := 5) rfl; omega) (by decide) ?_
              refine lv_iconst (v := (-1)) hx hb dX5_count_100 (by decide) ?_
              exact ro_iret hx hb hr hlocks dX5_count_101 (by (try unfold s_count); (repeat rw [if_neg h_1]); (repeat rw [if_neg h_2]); (repeat rw [if_neg h_3]); (repeat rw [if_neg h_4]); (repeat rw [if_neg h_5]); (repeat rw [if_neg h_6]); first | done | rfl)

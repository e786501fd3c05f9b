theorem i_X4_keptAt_X1 : ∀ w ∈ wsX10, w ∈ wsX4_keptAt := fun _ h => List.mem_cons_of_mem _ (List.mem_append_left _ (List.mem_append_left _ (List.mem_append_right _ h)))
theorem k_X4_keptAt_fieldLink_79 : Cond.fieldLink RX4 79 "SameWater$Law" "overs" "LSameWater$Rows;" ∈ wsX4_keptAt := by decide +kernel
theorem i_X4_keptAt_X2 : ∀ w ∈ wsX20, w ∈ wsX4_keptAt := fun _ h => List.mem_cons_of_mem _ (List.mem_append_right _ h)
theorem k_X4_keptAt_fieldLink_63 : Cond.fieldLink RX4 63 "SameWater$Rows" "size" "I" ∈ wsX4_keptAt := by decide +kernel
theorem i_X4_keptAt_X4 : ∀ w ∈ wsX40, w ∈ wsX4_keptAt := fun _ h => List.mem_cons_of_mem _ (List.mem_append_left _ (List.mem_append_right _ h))
theorem k_X4_keptAt_fieldLink_14 : Cond.fieldLink RX4 14 "SameWater$World" "children" "LSameWater$Rows;" ∈ wsX4_keptAt := by decide +kernel
theorem k_X4_keptAt_fieldLink_75 : Cond.fieldLink RX4 75 "SameWater$Law" "from" "[I" ∈ wsX4_keptAt := by decide +kernel
def w_kept2_st (wd : WT) (li : Nat) (child age : Int32) (k2 : Nat) (kp : Int32) : Int32 := if (age - (f_at 3 (lOv (wLw wd li)) (nI k2) 2)) < (f_at 5 (wCh wd) child (1 + (f_at 3 (lOv (wLw wd li)) (nI k2) 0))) then kp else kp ||| ((1 : Int32) <<< ((f_at 3 (lOv (wLw wd li)) (nI k2) 1) &&& 31))
def w_kept2 (wd : WT) (li : Nat) (child age : Int32) (kp0 : Int32) : Nat → Int32
  | 0 => kp0
  | k2 + 1 => w_kept2_st wd li child age k2 (w_kept2 wd li child age kp0 k2)
def w_kept1_st (wd : WT) (li : Nat) (child age : Int32) (k1 : Nat) (kp : Int32) : Int32 := if ((lFrom (wLw wd li)) (nI k1).toNatClampNeg) ≤ age then kp ||| ((1 : Int32) <<< ((nI k1) &&& 31)) else if age < (f_at 5 (wCh wd) child (1 + (nI k1))) then kp else kp ||| ((1 : Int32) <<< ((nI k1) &&& 31))
def w_kept1 (wd : WT) (li : Nat) (child age : Int32) (kp0 : Int32) : Nat → Int32
  | 0 => kp0
  | k1 + 1 => w_kept1_st wd li child age k1 (w_kept1 wd li child age kp0 k1)
def w_keptAt (wd : WT) (li : Nat) (child : Int32) (age : Int32) : Int32 := (w_kept2 wd li child age (w_kept1 wd li child age 0 4) ((lOv (wLw wd li)).1))
set_option maxHeartbeats 4000000 in
set_option maxRecDepth 100000 in
theorem c_X4_keptAt (l : Launch) (G : GG) (ad : Nat → Nat) (wd : WT) (li : Nat) (child : Int32) (age : Int32)  (hli : li < 8) : Met l yX4_keptAt wsX4_keptAt { frames := 1, cells := 0, slots := 0, locals := 22 } (roP G [.ref (ad 0), .ref (ad (10 + 5 * li)), .int child, .int age] (fun H => WAt G ad wd H)) (roQ (some (.int (w_keptAt wd li child age)))) 0 0 nF := by
  refine Met.ofW (cc := cX4_keptAt) (maxL := 7) (ret := (some .int)) (by decide) rfl ?_
  intro p e s m args below meth c s₁ Bd hml hv
  obtain ⟨rfl, hK, hB⟩ := hv
  have hx := Bd.exec
  have hb := Bd.bytes
  have hr := Bd.returns
  have hts := atoms_spec (ws := wsX4_keptAt) Bd.pre
  have hown : s.vm.findClass RX4 = some m.cls := findClass_of_methodNamed Bd.named
  have hlocks := Bd.notSynchronized
  have hC : CallFix p m c cX4_keptAt 7 s _ wsX4_keptAt RX4 := ⟨hx, hb, hml, hown, hts⟩
  have hl := lv_entry ([.ref (ad 0), .ref (ad (10 + 5 * li)), .int child, .int age]) (n := 7) (Nat.le_of_ble_eq_true rfl)
  rw [lg_entry_eq]
  generalize (lg_sl ([.ref (ad 0), .ref (ad (10 + 5 * li)), .int child, .int age]) ++ List.replicate (7 - (lg_sl ([.ref (ad 0), .ref (ad (10 + 5 * li)), .int child, .int age])).length) Slot.unset).toArray = ls at hl ⊢
  have hl : lv_has ls 7 [(0, .ref (ad 0)), (1, .ref (ad (10 + 5 * li))), (2, .int child), (3, .int age)] := hl
  have hW := hB
  obtain ⟨f_o, f_ch, f_as, f_an, f_tp, ⟨qf, f_q, hqf⟩, f_lw, hlc⟩ := hB
  refine lv_iconst (v := 0) hx hb dX4_keptAt_0 (by decide) ?_
  refine lv_istore (lv' := [(4, .int 0), (0, .ref (ad 0)), (1, .ref (ad (10 + 5 * li))), (2, .int child), (3, .int age)]) hx hb dX4_keptAt_1 hl (by decide) rfl (fun ls hl => ?_)
  refine lv_iconst (v := 0) hx hb dX4_keptAt_3 (by decide) ?_
  refine lv_istore (lv' := [(5, .int 0), (4, .int 0), (0, .ref (ad 0)), (1, .ref (ad (10 + 5 * li))), (2, .int child), (3, .int age)]) hx hb dX4_keptAt_4 hl (by decide) rfl (fun ls hl => ?_)
  refine loop_at (nL := 7) (fun k1 : Nat => [(0, .ref (ad 0)), (1, .ref (ad (10 + 5 * li))), (2, .int child), (3, .int age), (4, .int (w_kept1 wd li child age 0 k1)), (5, .int (nI k1))]) (fun k1 => k1 ≤ 4) (fun k1 => 4 - k1) 0 (Nat.zero_le _) (lv_sub hl [2, 3, 4, 5, 1, 0] rfl) (fun k1 hk_k1 ih_k1 ls hl => ?_)
  have hl : lv_has ls 7 [(0, .ref (ad 0)), (1, .ref (ad (10 + 5 * li))), (2, .int child), (3, .int age), (4, .int (w_kept1 wd li child age 0 k1)), (5, .int (nI k1))] := hl
  refine lv_iload hx hb dX4_keptAt_6 (lv_at hl 5 rfl) ?_
  refine lv_iconst (v := 4) hx hb dX4_keptAt_8 (by decide) ?_
  refine lv_icmp_ge (tgt := 54) hx hb dX4_keptAt_9 (by decide) (fun h_1 => ?_) (fun h_1 => ?_)
  · have hN_k1 : k1 = 4 := ge_ex (N := 4) rfl h_1 hk_k1 (by omega)
    subst hN_k1
    refine lv_iconst (v := 0) hx hb dX4_keptAt_54 (by decide) ?_
    refine lv_istore (lv' := [(5, .int 0), (0, .ref (ad 0)), (1, .ref (ad (10 + 5 * li))), (2, .int child), (3, .int age), (4, .int (w_kept1 wd li child age 0 4))]) hx hb dX4_keptAt_55 hl (by decide) rfl (fun ls hl => ?_)
    refine loop_at (nL := 7) (fun k2 : Nat => [(0, .ref (ad 0)), (1, .ref (ad (10 + 5 * li))), (2, .int child), (3, .int age), (4, .int (w_kept2 wd li child age (w_kept1 wd li child age 0 4) k2)), (5, .int (nI k2))]) (fun k2 => k2 ≤ (lOv (wLw wd li)).1) (fun k2 => (lOv (wLw wd li)).1 - k2) 0 (Nat.zero_le _) (lv_sub hl [1, 2, 3, 4, 5, 0] rfl) (fun k2 hk_k2 ih_k2 ls hl => ?_)
    have hl : lv_has ls 7 [(0, .ref (ad 0)), (1, .ref (ad (10 + 5 * li))), (2, .int child), (3, .int age), (4, .int (w_kept2 wd li child age (w_kept1 wd li child age 0 4) k2)), (5, .int (nI k2))] := hl
    refine lv_iload hx hb dX4_keptAt_57 (lv_at hl 5 rfl) ?_
    refine lv_aload_n hx hb dX4_keptAt_59 rfl (lv_at hl 1 rfl) ?_
    refine r_get (C := RX1) (T := TX1) (N := 8) hx hb hts i_X4_keptAt_X1 hown hK (f_lw _ hli).1 rfl 5 (by decide) k_X4_keptAt_fieldLink_79 rfl rfl dX4_keptAt_60 ?_
    refine r_get (C := RX2) (T := TX2) (N := 4) hx hb hts i_X4_keptAt_X2 hown hK (f_lw _ hli).2.2.1.1 rfl 3 (by decide) k_X4_keptAt_fieldLink_63 rfl rfl dX4_keptAt_63 ?_
    refine lv_icmp_ge (tgt := 131) hx hb dX4_keptAt_66 (by decide) (fun h_2 => ?_) (fun h_2 => ?_)
    · have hN_k2 : k2 = (lOv (wLw wd li)).1 := ge_ex (N := (lOv (wLw wd li)).1) rfl h_2 hk_k2 (by have := (f_lw _ hli).2.2.1.2.2.1; omega)
      subst hN_k2
      refine lv_iload hx hb dX4_keptAt_131 (lv_at hl 4 rfl) ?_
      exact ro_iret hx hb hr hlocks dX4_keptAt_133 rfl
    · have hlt_k2 : k2 < (lOv (wLw wd li)).1 := ge_in (N := (lOv (wLw wd li)).1) rfl h_2 hk_k2 (by have := (f_lw _ hli).2.2.1.2.2.1; omega)
      refine lv_aload_n hx hb dX4_keptAt_69 rfl (lv_at hl 0 rfl) ?_
      refine r_get (C := RX4) (T := TX4) (N := 6) hx hb hts i_X4_keptAt_X4 hown hK f_o rfl 0 (by decide) k_X4_keptAt_fieldLink_14 rfl rfl dX4_keptAt_70 ?_
      refine lv_iload_n hx hb dX4_keptAt_73 rfl (lv_at hl 2 rfl) ?_
      refine lv_iconst (v := 1) hx hb dX4_keptAt_74 (by decide) ?_
      refine lv_aload_n hx hb dX4_keptAt_75 rfl (lv_at hl 1 rfl) ?_
      refine r_get (C := RX1) (T := TX1) (N := 8) hx hb hts i_X4_keptAt_X1 hown hK (f_lw _ hli).1 rfl 5 (by decide) k_X4_keptAt_fieldLink_79 rfl rfl dX4_keptAt_76 ?_
      refine lv_iload hx hb dX4_keptAt_79 (lv_at hl 5 rfl) ?_
      refine lv_iconst (v := 0) hx hb dX4_keptAt_81 (by decide) ?_
      refine ro_call (va_runV (As := [.int (nI k2), .int 0]) (rest := [.int 1, .int child, .ref (ad 1)]) hC (c_X2_at l G (ad (10 + 5 * li + 2)) (ad (10 + 5 * li + 3)) 10 3 (lOv (wLw wd li)) (nI k2) 0) (cwV 2 hts gX4_keptAt_X2_at rfl rfl rfl kd_X2_at ⟨Nat.le_of_ble_eq_true rfl, Nat.le_of_ble_eq_true rfl⟩) (ro_preV hK (f_lw _ hli).2.2.1.1 rfl (f_lw _ hli).2.2.1) rfl rfl hl.1 rfl (lv_room (Nat.le_of_ble_eq_true rfl)) dX4_keptAt_82 ⟨Nat.zero_le _, Nat.zero_le _⟩) ?_
      refine lv_iadd hx hb dX4_keptAt_85 ?_
      refine ro_call (va_runV (As := [.int child, .int (1 + (f_at 3 (lOv (wLw wd li)) (nI k2) 0))]) (rest := []) hC (c_X2_at l G (ad 1) (ad 2) 8 5 (wCh wd) child (1 + (f_at 3 (lOv (wLw wd li)) (nI k2) 0))) (cwV 2 hts gX4_keptAt_X2_at rfl rfl rfl kd_X2_at ⟨Nat.le_of_ble_eq_true rfl, Nat.le_of_ble_eq_true rfl⟩) (ro_preV hK f_ch.1 rfl f_ch) rfl rfl hl.1 rfl (lv_room (Nat.le_of_ble_eq_true rfl)) dX4_keptAt_86 ⟨Nat.zero_le _, Nat.zero_le _⟩) ?_
      refine lv_istore (lv' := [(6, .int (f_at 5 (wCh wd) child (1 + (f_at 3 (lOv (wLw wd li)) (nI k2) 0)))), (0, .ref (ad 0)), (1, .ref (ad (10 + 5 * li))), (2, .int child), (3, .int age), (4, .int (w_kept2 wd li child age (w_kept1 wd li child age 0 4) k2)), (5, .int (nI k2))]) hx hb dX4_keptAt_89 hl (by decide) rfl (fun ls hl => ?_)
      refine lv_iload hx hb dX4_keptAt_91 (lv_at hl 0 rfl) ?_
      refine lv_iload_n hx hb dX4_keptAt_93 rfl (lv_at hl 4 rfl) ?_
      refine lv_aload_n hx hb dX4_keptAt_94 rfl (lv_at hl 2 rfl) ?_
      refine r_get (C := RX1) (T := TX1) (N := 8) hx hb hts i_X4_keptAt_X1 hown hK (f_lw _ hli).1 rfl 5 (by decide) k_X4_keptAt_fieldLink_79 rfl rfl dX4_keptAt_95 ?_
      refine lv_iload hx hb dX4_keptAt_98 (lv_at hl 6 rfl) ?_
      refine lv_iconst (v := 2) hx hb dX4_keptAt_100 (by decide) ?_
      refine ro_call (va_runV (As := [.int (nI k2), .int 2]) (rest := [.int age, .int (f_at 5 (wCh wd) child (1 + (f_at 3 (lOv (wLw wd li)) (nI k2) 0)))]) hC (c_X2_at l G (ad (10 + 5 * li + 2)) (ad (10 + 5 * li + 3)) 10 3 (lOv (wLw wd li)) (nI k2) 2) (cwV 2 hts gX4_keptAt_X2_at rfl rfl rfl kd_X2_at ⟨Nat.le_of_ble_eq_true rfl, Nat.le_of_ble_eq_true rfl⟩) (ro_preV hK (f_lw _ hli).2.2.1.1 rfl (f_lw _ hli).2.2.1) rfl rfl hl.1 rfl (lv_room (Nat.le_of_ble_eq_true rfl)) dX4_keptAt_101 ⟨Nat.zero_le _, Nat.zero_le _⟩) ?_
      refine lv_isub hx hb dX4_keptAt_104 ?_
      refine join_at (nL := 7) 125 [(6, .int (f_at 5 (wCh wd) child (1 + (f_at 3 (lOv (wLw wd li)) (nI k2) 0)))), (0, .ref (ad 0)), (1, .ref (ad (10 + 5 * li))), (2, .int child), (3, .int age), (4, .int (if (age - (f_at 3 (lOv (wLw wd li)) (nI k2) 2)) < (f_at 5 (wCh wd) child (1 + (f_at 3 (lOv (wLw wd li)) (nI k2) 0))) then (w_kept2 wd li child age (w_kept1 wd li child age 0 4) k2) else (w_kept2 wd li child age (w_kept1 wd li child age 0 4) k2) ||| ((1 : Int32) <<< ((f_at 3 (lOv (wLw wd li)) (nI k2) 1) &&& 31)))), (5, .int (nI k2))] [] (fun ls hl => ?_) (fun J_3 => ?_)
      · refine lv_iinc (v := (nI k2) + 1) (lv' := [(5, .int ((nI k2) + 1)), (6, .int (f_at 5 (wCh wd) child (1 + (f_at 3 (lOv (wLw wd li)) (nI k2) 0)))), (0, .ref (ad 0)), (1, .ref (ad (10 + 5 * li))), (2, .int child), (3, .int age), (4, .int (if (age - (f_at 3 (lOv (wLw wd li)) (nI k2) 2)) < (f_at 5 (wCh wd) child (1 + (f_at 3 (lOv (wLw wd li)) (nI k2) 0))) then (w_kept2 wd li child age (w_kept1 wd li child age 0 4) k2) else (w_kept2 wd li child age (w_kept1 wd li child age 0 4) k2) ||| ((1 : Int32) <<< ((f_at 3 (lOv (wLw wd li)) (nI k2) 1) &&& 31))))]) hx hb dX4_keptAt_125 hl (k := 6) rfl rfl (by decide) rfl (fun ls hl => ?_)
        refine lv_goto (tgt := 57) hx hb dX4_keptAt_128 (by decide) ?_
        have hE : (w_kept2 wd li child age (w_kept1 wd li child age 0 4) (k2 + 1)) = if (age - (f_at 3 (lOv (wLw wd li)) (nI k2) 2)) < (f_at 5 (wCh wd) child (1 + (f_at 3 (lOv (wLw wd li)) (nI k2) 0))) then (w_kept2 wd li child age (w_kept1 wd li child age 0 4) k2) else (w_kept2 wd li child age (w_kept1 wd li child age 0 4) k2) ||| ((1 : Int32) <<< ((f_at 3 (lOv (wLw wd li)) (nI k2) 1) &&& 31)) := (by show w_kept2_st wd li child age k2 (w_kept2 wd li child age (w_kept1 wd li child age 0 4) k2) = _; (try unfold w_kept2_st); first | done | rfl)
        refine ih_k2 (k2 + 1) (show k2 + 1 ≤ (lOv (wLw wd li)).1 by omega) (by omega) ls ?_
        show lv_has ls 7 [(0, .ref (ad 0)), (1, .ref (ad (10 + 5 * li))), (2, .int child), (3, .int age), (4, .int (w_kept2 wd li child age (w_kept1 wd li child age 0 4) (k2 + 1))), (5, .int (nI (k2 + 1)))]
        rw [nI_succ, hE]
        exact lv_sub hl [2, 3, 4, 5, 6, 0] rfl
      · refine lv_icmp_gt (tgt := 125) hx hb dX4_keptAt_105 (by decide) (fun h_4 => ?_) (fun h_4 => ?_)
        · have hJ := J_3; (repeat rw [if_pos h_4] at hJ)
          first | exact hJ ls (lv_sub hl [0, 1, 2, 3, 4, 5, 6] rfl) | ((repeat rw [if_pos h_4] at hl); (repeat rw [if_pos h_4]); exact hJ ls (lv_sub hl [0, 1, 2, 3, 4, 5, 6] rfl))
        · refine lv_iload hx hb dX4_keptAt_108 (lv_at hl 5 rfl) ?_
          refine lv_iconst (v := 1) hx hb dX4_keptAt_110 (by decide) ?_
          refine lv_aload_n hx hb dX4_keptAt_111 rfl (lv_at hl 2 rfl) ?_
          refine r_get (C := RX1) (T := TX1) (N := 8) hx hb hts i_X4_keptAt_X1 hown hK (f_lw _ hli).1 rfl 5 (by decide) k_X4_keptAt_fieldLink_79 rfl rfl dX4_keptAt_112 ?_
          refine lv_iload hx hb dX4_keptAt_115 (lv_at hl 6 rfl) ?_
          refine lv_iconst (v := 1) hx hb dX4_keptAt_117 (by decide) ?_
          refine ro_call (va_runV (As := [.int (nI k2), .int 1]) (rest := [.int 1, .int (w_kept2 wd li child age (w_kept1 wd li child age 0 4) k2)]) hC (c_X2_at l G (ad (10 + 5 * li + 2)) (ad (10 + 5 * li + 3)) 10 3 (lOv (wLw wd li)) (nI k2) 1) (cwV 2 hts gX4_keptAt_X2_at rfl rfl rfl kd_X2_at ⟨Nat.le_of_ble_eq_true rfl, Nat.le_of_ble_eq_true rfl⟩) (ro_preV hK (f_lw _ hli).2.2.1.1 rfl (f_lw _ hli).2.2.1) rfl rfl hl.1 rfl (lv_room (Nat.le_of_ble_eq_true rfl)) dX4_keptAt_118 ⟨Nat.zero_le _, Nat.zero_le _⟩) ?_
          refine lv_ishl hx hb dX4_keptAt_121 ?_
          refine lv_ior hx hb dX4_keptAt_122 ?_
          refine lv_istore (lv' := [(4, .int ((w_kept2 wd li child age (w_kept1 wd li child age 0 4) k2) ||| ((1 : Int32) <<< ((f_at 3 (lOv (wLw wd li)) (nI k2) 1) &&& 31)))), (6, .int (f_at 5 (wCh wd) child (1 + (f_at 3 (lOv (wLw wd li)) (nI k2) 0)))), (0, .ref (ad 0)), (1, .ref (ad (10 + 5 * li))), (2, .int child), (3, .int age), (5, .int (nI k2))]) hx hb dX4_keptAt_123 hl (by decide) rfl (fun ls hl => ?_)
          have hJ := J_3; (repeat rw [if_neg h_4] at hJ)
          first | exact hJ ls (lv_sub hl [1, 2, 3, 4, 5, 0, 6] rfl) | ((repeat rw [if_neg h_4] at hl); (repeat rw [if_neg h_4]); exact hJ ls (lv_sub hl [1, 2, 3, 4, 5, 0, 6] rfl))
  · have hlt_k1 : k1 < 4 := ge_in (N := 4) rfl h_1 hk_k1 (by omega)
    refine lv_iload_n hx hb dX4_keptAt_12 rfl (lv_at hl 3 rfl) ?_
    refine lv_aload_n hx hb dX4_keptAt_13 rfl (lv_at hl 1 rfl) ?_
    refine r_get (C := RX1) (T := TX1) (N := 8) hx hb hts i_X4_keptAt_X1 hown hK (f_lw _ hli).1 rfl 4 (by decide) k_X4_keptAt_fieldLink_75 rfl rfl dX4_keptAt_14 ?_
    refine lv_iload hx hb dX4_keptAt_17 (lv_at hl 5 rfl) ?_
    refine r_iald hx hb hK (f_lw _ hli).2.1 (vp_in_nI (by omega) (by decide)) dX4_keptAt_19 ?_
    refine join_at (nL := 7) 48 [(4, .int (if ((lFrom (wLw wd li)) (nI k1).toNatClampNeg) ≤ age then (w_kept1 wd li child age 0 k1) ||| ((1 : Int32) <<< ((nI k1) &&& 31)) else if age < (f_at 5 (wCh wd) child (1 + (nI k1))) then (w_kept1 wd li child age 0 k1) else (w_kept1 wd li child age 0 k1) ||| ((1 : Int32) <<< ((nI k1) &&& 31)))), (0, .ref (ad 0)), (1, .ref (ad (10 + 5 * li))), (2, .int child), (3, .int age), (5, .int (nI k1))] [] (fun ls hl => ?_) (fun J_5 => ?_)
    · refine lv_iinc (v := (nI k1) + 1) (lv' := [(5, .int ((nI k1) + 1)), (4, .int (if ((lFrom (wLw wd li)) (nI k1).toNatClampNeg) ≤ age then (w_kept1 wd li child age 0 k1) ||| ((1 : Int32) <<< ((nI k1) &&& 31)) else if age < (f_at 5 (wCh wd) child (1 + (nI k1))) then (w_kept1 wd li child age 0 k1) else (w_kept1 wd li child age 0 k1) ||| ((1 : Int32) <<< ((nI k1) &&& 31)))), (0, .ref (ad 0)), (1, .ref (ad (10 + 5 * li))), (2, .int child), (3, .int age)]) hx hb dX4_keptAt_48 hl (k := 5) rfl rfl (by decide) rfl (fun ls hl => ?_)
      refine lv_goto (tgt := 6) hx hb dX4_keptAt_51 (by decide) ?_
      have hE : (w_kept1 wd li child age 0 (k1 + 1)) = if ((lFrom (wLw wd li)) (nI k1).toNatClampNeg) ≤ age then (w_kept1 wd li child age 0 k1) ||| ((1 : Int32) <<< ((nI k1) &&& 31)) else if age < (f_at 5 (wCh wd) child (1 + (nI k1))) then (w_kept1 wd li child age 0 k1) else (w_kept1 wd li child age 0 k1) ||| ((1 : Int32) <<< ((nI k1) &&& 31)) := (by show w_kept1_st wd li child age k1 (w_kept1 wd li child age 0 k1) = _; (try unfold w_kept1_st); first | done | rfl)
      refine ih_k1 (k1 + 1) (show k1 + 1 ≤ 4 by omega) (by omega) ls ?_
      show lv_has ls 7 [(0, .ref (ad 0)), (1, .ref (ad (10 + 5 * li))), (2, .int child), (3, .int age), (4, .int (w_kept1 wd li child age 0 (k1 + 1))), (5, .int (nI (k1 + 1)))]
      rw [nI_succ, hE]
      exact lv_sub hl [2, 3, 4, 5, 1, 0] rfl
    · refine lv_icmp_ge (tgt := 39) hx hb dX4_keptAt_20 (by decide) (fun h_6 => ?_) (fun h_6 => ?_)
      · refine lv_iload hx hb dX4_keptAt_39 (lv_at hl 4 rfl) ?_
        refine lv_iconst (v := 1) hx hb dX4_keptAt_41 (by decide) ?_
        refine lv_iload hx hb dX4_keptAt_42 (lv_at hl 5 rfl) ?_
        refine lv_ishl hx hb dX4_keptAt_44 ?_
        refine lv_ior hx hb dX4_keptAt_45 ?_
        refine lv_istore (lv' := [(4, .int ((w_kept1 wd li child age 0 k1) ||| ((1 : Int32) <<< ((nI k1) &&& 31)))), (0, .ref (ad 0)), (1, .ref (ad (10 + 5 * li))), (2, .int child), (3, .int age), (5, .int (nI k1))]) hx hb dX4_keptAt_46 hl (by decide) rfl (fun ls hl => ?_)
        have hJ := J_5; (repeat rw [if_pos h_6] at hJ)
        first | exact hJ ls (lv_sub hl [0, 1, 2, 3, 4, 5] rfl) | ((repeat rw [if_pos h_6] at hl); (repeat rw [if_pos h_6]); exact hJ ls (lv_sub hl [0, 1, 2, 3, 4, 5] rfl))
      · refine lv_aload_n hx hb dX4_keptAt_23 rfl (lv_at hl 0 rfl) ?_
        refine r_get (C := RX4) (T := TX4) (N := 6) hx hb hts i_X4_keptAt_X4 hown hK f_o rfl 0 (by decide) k_X4_keptAt_fieldLink_14 rfl rfl dX4_keptAt_24 ?_
        refine lv_iload_n hx hb dX4_keptAt_27 rfl (lv_at hl 2 rfl) ?_
        refine lv_iconst (v := 1) hx hb dX4_keptAt_28 (by decide) ?_
        refine lv_iload hx hb dX4_keptAt_29 (lv_at hl 5 rfl) ?_
        refine lv_iadd hx hb dX4_keptAt_31 ?_
        refine ro_call (va_runV (As := [.int child, .int (1 + (nI k1))]) (rest := []) hC (c_X2_at l G (ad 1) (ad 2) 8 5 (wCh wd) child (1 + (nI k1))) (cwV 2 hts gX4_keptAt_X2_at rfl rfl rfl kd_X2_at ⟨Nat.le_of_ble_eq_true rfl, Nat.le_of_ble_eq_true rfl⟩) (ro_preV hK f_ch.1 rfl f_ch) rfl rfl hl.1 rfl (lv_room (Nat.le_of_ble_eq_true rfl)) dX4_keptAt_32 ⟨Nat.zero_le _, Nat.zero_le _⟩) ?_
        refine lv_iload_n hx hb dX4_keptAt_35 rfl (lv_at hl 3 rfl) ?_
        refine lv_icmp_gt (tgt := 48) hx hb dX4_keptAt_36 (by decide) (fun h_7 => ?_) (fun h_7 => ?_)
        · have hJ := J_5; (repeat rw [if_neg h_6] at hJ); (repeat rw [if_pos h_7] at hJ)
          first | exact hJ ls (lv_sub hl [4, 0, 1, 2, 3, 5] rfl) | ((repeat rw [if_neg h_6] at hl); (repeat rw [if_pos h_7] at hl); (repeat rw [if_neg h_6]); (repeat rw [if_pos h_7]); exact hJ ls (lv_sub hl [4, 0, 1, 2, 3, 5] rfl))
        · refine lv_iload hx hb dX4_keptAt_39 (lv_at hl 4 rfl) ?_
          refine lv_iconst (v := 1) hx hb dX4_keptAt_41 (by decide) ?_
          refine lv_iload hx hb dX4_keptAt_42 (lv_at hl 5 rfl) ?_
          refine lv_ishl hx hb dX4_keptAt_44 ?_
          refine lv_ior hx hb dX4_keptAt_45 ?_
          refine lv_istore (lv' := [(4, .int ((w_kept1 wd li child age 0 k1) ||| ((1 : Int32) <<< ((nI k1) &&& 31)))), (0, .ref (ad 0)), (1, .ref (ad (10 + 5 * li))), (2, .int child), (3, .int age), (5, .int (nI k1))]) hx hb dX4_keptAt_46 hl (by decide) rfl (fun ls hl => ?_)
          have hJ := J_5; (repeat rw [if_neg h_6] at hJ); (repeat rw [if_neg h_7] at hJ)
          first | exact hJ ls (lv_sub hl [0, 1, 2, 3, 4, 5] rfl) | ((repeat rw [if_neg h_6] at hl); (repeat rw [if_neg h_7] at hl); (repeat rw [if_neg h_6]); (repeat rw [if_neg h_7]); exact hJ ls (lv_sub hl [0, 1, 2, 3, 4, 5] rfl))
theorem i_X4_toldByKind_X4 : ∀ w ∈ wsX40, w ∈ wsX4_toldByKind := fun _ h => List.mem_cons_of_mem _ (List.mem_append_left _ (List.mem_append_left _ (List.mem_append_right _ h)))
theorem k_X4_toldByKind_fieldLink_20 : Cond.fieldLink RX4 20 "SameWater$World" "askings" "LSameWater$Rows;" ∈ wsX4_toldByKind := by decide +kernel
theorem i_X4_toldByKind_X1 : ∀ w ∈ wsX10, w ∈ wsX4_toldByKind := fun _ h => List.mem_cons_of_mem _ (List.mem_append_left _ (List.mem_append_right _ h))
theorem k_X4_toldByKind_fieldLink_102 : Cond.fieldLink RX4 102 "SameWater$Law" "kind" "I" ∈ wsX4_toldByKind := by decide +kernel
theorem k_X4_toldByKind_fieldLink_108 : Cond.fieldLink RX4 108 "SameWater$Law" "v" "I" ∈ wsX4_toldByKind := by decide +kernel
theorem kd_X4_asLooks : yX4_asLooks.cls = RX4 ∧ yX4_asLooks.cls ≠ "java/lang/invoke/MethodHandle" ∧ yX4_asLooks.cls ≠ "java/lang/invoke/VarHandle" ∧ (parseMethodDescriptor yX4_asLooks.desc).map (fun d => d.parameters.length) = some 2 := by decide +kernel
theorem kd_X4_isPressed : yX4_isPressed.cls = RX4 ∧ yX4_isPressed.cls ≠ "java/lang/invoke/MethodHandle" ∧ yX4_isPressed.cls ≠ "java/lang/invoke/VarHandle" ∧ (parseMethodDescriptor yX4_isPressed.desc).map (fun d => d.parameters.length) = some 1 := by decide +kernel
def w_toldByKind (wd : WT) (li : Nat) (kept : Int32) (asking : Int32) (age : Int32) : Int32 := if (lKind (wLw wd li)) = 1 then w_asLooks wd asking (lV (wLw wd li)) else if (lKind (wLw wd li)) = 2 then if (kept &&& (if (lKind (wLw wd li)) = 6 then ((1 : Int32) <<< ((f_at 7 (wAs wd) asking 0) &&& 31)) ||| (((1 : Int32) <<< ((f_at 7 (wAs wd) asking 0) &&& 31)) - 1) else (1 : Int32) <<< ((f_at 7 (wAs wd) asking 0) &&& 31))) = (if (lKind (wLw wd li)) = 6 then ((1 : Int32) <<< ((f_at 7 (wAs wd) asking 0) &&& 31)) ||| (((1 : Int32) <<< ((f_at 7 (wAs wd) asking 0) &&& 31)) - 1) else (1 : Int32) <<< ((f_at 7 (wAs wd) asking 0) &&& 31)) then (f_at 7 (wAs wd) asking 6) + 1 else w_asLooks wd asking 1 else if (lKind (wLw wd li)) = 3 then if (if (kept &&& (if (lKind (wLw wd li)) = 6 then ((1 : Int32) <<< ((f_at 7 (wAs wd) asking 0) &&& 31)) ||| (((1 : Int32) <<< ((f_at 7 (wAs wd) asking 0) &&& 31)) - 1) else (1 : Int32) <<< ((f_at 7 (wAs wd) asking 0) &&& 31))) = (if (lKind (wLw wd li)) = 6 then ((1 : Int32) <<< ((f_at 7 (wAs wd) asking 0) &&& 31)) ||| (((1 : Int32) <<< ((f_at 7 (wAs wd) asking 0) &&& 31)) - 1) else (1 : Int32) <<< ((f_at 7 (wAs wd) asking 0) &&& 31)) then (f_at 7 (wAs wd) asking 6) + 1 else w_asLooks wd asking 1) = 1 then if (w_isPressed wd asking) = true then w_asLooks wd asking 1 else if (kept &&& (if (lKind (wLw wd li)) = 6 then ((1 : Int32) <<< ((f_at 7 (wAs wd) asking 0) &&& 31)) ||| (((1 : Int32) <<< ((f_at 7 (wAs wd) asking 0) &&& 31)) - 1) else (1 : Int32) <<< ((f_at 7 (wAs wd) asking 0) &&& 31))) = (if (lKind (wLw wd li)) = 6 then ((1 : Int32) <<< ((f_at 7 (wAs wd) asking 0) &&& 31)) ||| (((1 : Int32) <<< ((f_at 7 (wAs wd) asking 0) &&& 31)) - 1) else (1 : Int32) <<< ((f_at 7 (wAs wd) asking 0) &&& 31)) then (f_at 7 (wAs wd) asking 6) + 1 else w_asLooks wd asking 1 else if (kept &&& (if (lKind (wLw wd li)) = 6 then ((1 : Int32) <<< ((f_at 7 (wAs wd) asking 0) &&& 31)) ||| (((1 : Int32) <<< ((f_at 7 (wAs wd) asking 0) &&& 31)) - 1) else (1 : Int32) <<< ((f_at 7 (wAs wd) asking 0) &&& 31))) = (if (lKind (wLw wd li)) = 6 then ((1 : Int32) <<< ((f_at 7 (wAs wd) asking 0) &&& 31)) ||| (((1 : Int32) <<< ((f_at 7 (wAs wd) asking 0) &&& 31)) - 1) else (1 : Int32) <<< ((f_at 7 (wAs wd) asking 0) &&& 31)) then (f_at 7 (wAs wd) asking 6) + 1 else w_asLooks wd asking 1 else if (lKind (wLw wd li)) = 4 then if (f_at 7 (wAs wd) asking 4) = (lV (wLw wd li)) then 2 - (w_asLooks wd asking (lV (wLw wd li))) else w_asLooks wd asking (lV (wLw wd li)) else if (lKind (wLw wd li)) = 5 then if (f_at 7 (wAs wd) asking 3) = 1 then if age < (6 * (lV (wLw wd li))) then if (kept &&& (if (lKind (wLw wd li)) = 6 then ((1 : Int32) <<< ((f_at 7 (wAs wd) asking 0) &&& 31)) ||| (((1 : Int32) <<< ((f_at 7 (wAs wd) asking 0) &&& 31)) - 1) else (1 : Int32) <<< ((f_at 7 (wAs wd) asking 0) &&& 31))) = (if (lKind (wLw wd li)) = 6 then ((1 : Int32) <<< ((f_at 7 (wAs wd) asking 0) &&& 31)) ||| (((1 : Int32) <<< ((f_at 7 (wAs wd) asking 0) &&& 31)) - 1) else (1 : Int32) <<< ((f_at 7 (wAs wd) asking 0) &&& 31)) then (f_at 7 (wAs wd) asking 6) + 1 else w_asLooks wd asking 1 else (f_at 7 (wAs wd) asking 6) + 1 else if (kept &&& (if (lKind (wLw wd li)) = 6 then ((1 : Int32) <<< ((f_at 7 (wAs wd) asking 0) &&& 31)) ||| (((1 : Int32) <<< ((f_at 7 (wAs wd) asking 0) &&& 31)) - 1) else (1 : Int32) <<< ((f_at 7 (wAs wd) asking 0) &&& 31))) = (if (lKind (wLw wd li)) = 6 then ((1 : Int32) <<< ((f_at 7 (wAs wd) asking 0) &&& 31)) ||| (((1 : Int32) <<< ((f_at 7 (wAs wd) asking 0) &&& 31)) - 1) else (1 : Int32) <<< ((f_at 7 (wAs wd) asking 0) &&& 31)) then (f_at 7 (wAs wd) asking 6) + 1 else w_asLooks wd asking 1 else if (lKind (wLw wd li)) = 6 then if (if (kept &&& (if (lKind (wLw wd li)) = 6 then ((1 : Int32) <<< ((f_at 7 (wAs wd) asking 0) &&& 31)) ||| (((1 : Int32) <<< ((f_at 7 (wAs wd) asking 0) &&& 31)) - 1) else (1 : Int32) <<< ((f_at 7 (wAs wd) asking 0) &&& 31))) = (if (lKind (wLw wd li)) = 6 then ((1 : Int32) <<< ((f_at 7 (wAs wd) asking 0) &&& 31)) ||| (((1 : Int32) <<< ((f_at 7 (wAs wd) asking 0) &&& 31)) - 1) else (1 : Int32) <<< ((f_at 7 (wAs wd) asking 0) &&& 31)) then (f_at 7 (wAs wd) asking 6) + 1 else w_asLooks wd asking 1) = 1 then if (w_isPressed wd asking) = true then w_asLooks wd asking 1 else if (kept &&& (if (lKind (wLw wd li)) = 6 then ((1 : Int32) <<< ((f_at 7 (wAs wd) asking 0) &&& 31)) ||| (((1 : Int32) <<< ((f_at 7 (wAs wd) asking 0) &&& 31)) - 1) else (1 : Int32) <<< ((f_at 7 (wAs wd) asking 0) &&& 31))) = (if (lKind (wLw wd li)) = 6 then ((1 : Int32) <<< ((f_at 7 (wAs wd) asking 0) &&& 31)) ||| (((1 : Int32) <<< ((f_at 7 (wAs wd) asking 0) &&& 31)) - 1) else (1 : Int32) <<< ((f_at 7 (wAs wd) asking 0) &&& 31)) then (f_at 7 (wAs wd) asking 6) + 1 else w_asLooks wd asking 1 else if (kept &&& (if (lKind (wLw wd li)) = 6 then ((1 : Int32) <<< ((f_at 7 (wAs wd) asking 0) &&& 31)) ||| (((1 : Int32) <<< ((f_at 7 (wAs wd) asking 0) &&& 31)) - 1) else (1 : Int32) <<< ((f_at 7 (wAs wd) asking 0) &&& 31))) = (if (lKind (wLw wd li)) = 6 then ((1 : Int32) <<< ((f_at 7 (wAs wd) asking 0) &&& 31)) ||| (((1 : Int32) <<< ((f_at 7 (wAs wd) asking 0) &&& 31)) - 1) else (1 : Int32) <<< ((f_at 7 (wAs wd) asking 0) &&& 31)) then (f_at 7 (wAs wd) asking 6) + 1 else w_asLooks wd asking 1 else 1
set_option maxHeartbeats 4000000 in
set_option maxRecDepth 100000 in
theorem c_X4_toldByKind (l : Launch) (G : GG) (ad : Nat → Nat) (wd : WT) (li : Nat) (kept : Int32) (asking : Int32) (age : Int32)  (hli : li < 8) : Met l yX4_toldByKind wsX4_toldByKind { frames := 2, cells := 0, slots := 0, locals := 63 } (roP G [.ref (ad 0), .ref (ad (10 + 5 * li)), .int kept, .int asking, .int age] (fun H => WAt G ad wd H)) (roQ (some (.int (w_toldByKind wd li kept asking age)))) 0 0 nF := by
  refine Met.ofW (cc := cX4_toldByKind) (maxL := 10) (ret := (some .int)) (by decide) rfl ?_
  intro p e s m args below meth c s₁ Bd hml hv
  obtain ⟨rfl, hK, hB⟩ := hv
  have hx := Bd.exec
  have hb := Bd.bytes
  have hr := Bd.returns
  have hts := atoms_spec (ws := wsX4_toldByKind) Bd.pre
  have hown : s.vm.findClass RX4 = some m.cls := findClass_of_methodNamed Bd.named
  have hlocks := Bd.notSynchronized
  have hC : CallFix p m c cX4_toldByKind 10 s _ wsX4_toldByKind RX4 := ⟨hx, hb, hml, hown, hts⟩
  have hl := lv_entry ([.ref (ad 0), .ref (ad (10 + 5 * li)), .int kept, .int asking, .int age]) (n := 10) (Nat.le_of_ble_eq_true rfl)
  rw [lg_entry_eq]
  generalize (lg_sl ([.ref (ad 0), .ref (ad (10 + 5 * li)), .int kept, .int asking, .int age]) ++ List.replicate (10 - (lg_sl ([.ref (ad 0), .ref (ad (10 + 5 * li)), .int kept, .int asking, .int age])).length) Slot.unset).toArray = ls at hl ⊢
  have hl : lv_has ls 10 [(0, .ref (ad 0)), (1, .ref (ad (10 + 5 * li))), (2, .int kept), (3, .int asking), (4, .int age)] := hl
  have hW := hB
  obtain ⟨f_o, f_ch, f_as, f_an, f_tp, ⟨qf, f_q, hqf⟩, f_lw, hlc⟩ := hB
  refine lv_iconst (v := 1) hx hb dX4_toldByKind_0 (by decide) ?_
  refine lv_aload_n hx hb dX4_toldByKind_1 rfl (lv_at hl 0 rfl) ?_
  refine r_get (C := RX4) (T := TX4) (N := 6) hx hb hts i_X4_toldByKind_X4 hown hK f_o rfl 1 (by decide) k_X4_toldByKind_fieldLink_20 rfl rfl dX4_toldByKind_2 ?_
  refine lv_iload_n hx hb dX4_toldByKind_5 rfl (lv_at hl 3 rfl) ?_
  refine lv_iconst (v := 0) hx hb dX4_toldByKind_6 (by decide) ?_
  refine ro_call (va_runV (As := [.int asking, .int 0]) (rest := [.int 1]) hC (c_X2_at l G (ad 3) (ad 4) 16 7 (wAs wd) asking 0) (cwV 2 hts gX4_toldByKind_X2_at rfl rfl rfl kd_X2_at ⟨Nat.le_of_ble_eq_true rfl, Nat.le_of_ble_eq_true rfl⟩) (ro_preV hK f_as.1 rfl f_as) rfl rfl hl.1 rfl (lv_room (Nat.le_of_ble_eq_true rfl)) dX4_toldByKind_7 ⟨Nat.zero_le _, Nat.zero_le _⟩) ?_
  refine lv_ishl hx hb dX4_toldByKind_10 ?_
  refine lv_istore (lv' := [(5, .int ((1 : Int32) <<< ((f_at 7 (wAs wd) asking 0) &&& 31))), (0, .ref (ad 0)), (1, .ref (ad (10 + 5 * li))), (2, .int kept), (3, .int asking), (4, .int age)]) hx hb dX4_toldByKind_11 hl (by decide) rfl (fun ls hl => ?_)
  refine lv_aload_n hx hb dX4_toldByKind_13 rfl (lv_at hl 2 rfl) ?_
  refine r_get (C := RX1) (T := TX1) (N := 8) hx hb hts i_X4_toldByKind_X1 hown hK (f_lw _ hli).1 rfl 1 (by decide) k_X4_toldByKind_fieldLink_102 rfl rfl dX4_toldByKind_14 ?_
  refine lv_bipush (v := 6) hx hb dX4_toldByKind_17 (by decide +kernel) ?_
  refine join_at (nL := 10) 31 [(5, .int (if (lKind (wLw wd li)) = 6 then ((1 : Int32) <<< ((f_at 7 (wAs wd) asking 0) &&& 31)) ||| (((1 : Int32) <<< ((f_at 7 (wAs wd) asking 0) &&& 31)) - 1) else (1 : Int32) <<< ((f_at 7 (wAs wd) asking 0) &&& 31))), (0, .ref (ad 0)), (1, .ref (ad (10 + 5 * li))), (2, .int kept), (3, .int asking), (4, .int age)] [] (fun ls hl => ?_) (fun J_1 => ?_)
  · refine lv_aload_n hx hb dX4_toldByKind_31 rfl (lv_at hl 1 rfl) ?_
    refine r_get (C := RX4) (T := TX4) (N := 6) hx hb hts i_X4_toldByKind_X4 hown hK f_o rfl 1 (by decide) k_X4_toldByKind_fieldLink_20 rfl rfl dX4_toldByKind_32 ?_
    refine lv_iload_n hx hb dX4_toldByKind_35 rfl (lv_at hl 4 rfl) ?_
    refine lv_bipush (v := 6) hx hb dX4_toldByKind_36 (by decide +kernel) ?_
    refine ro_call (va_runV (As := [.int asking, .int 6]) (rest := []) hC (c_X2_at l G (ad 3) (ad 4) 16 7 (wAs wd) asking 6) (cwV 2 hts gX4_toldByKind_X2_at rfl rfl rfl kd_X2_at ⟨Nat.le_of_ble_eq_true rfl, Nat.le_of_ble_eq_true rfl⟩) (ro_preV hK f_as.1 rfl f_as) rfl rfl hl.1 rfl (lv_room (Nat.le_of_ble_eq_true rfl)) dX4_toldByKind_38 ⟨Nat.zero_le _, Nat.zero_le _⟩) ?_
    refine lv_iconst (v := 1) hx hb dX4_toldByKind_41 (by decide) ?_
    refine lv_iadd hx hb dX4_toldByKind_42 ?_
    refine lv_istore (lv' := [(6, .int ((f_at 7 (wAs wd) asking 6) + 1)), (5, .int (if (lKind (wLw wd li)) = 6 then ((1 : Int32) <<< ((f_at 7 (wAs wd) asking 0) &&& 31)) ||| (((1 : Int32) <<< ((f_at 7 (wAs wd) asking 0) &&& 31)) - 1) else (1 : Int32) <<< ((f_at 7 (wAs wd) asking 0) &&& 31))), (0, .ref (ad 0)), (1, .ref (ad (10 + 5 * li))), (2, .int kept), (3, .int asking), (4, .int age)]) hx hb dX4_toldByKind_43 hl (by decide) rfl (fun ls hl => ?_)
    refine lv_aload_n hx hb dX4_toldByKind_45 rfl (lv_at hl 2 rfl) ?_
    refine lv_iload_n hx hb dX4_toldByKind_46 rfl (lv_at hl 5 rfl) ?_
    refine lv_iconst (v := 1) hx hb dX4_toldByKind_47 (by decide) ?_
    refine ro_call (va_runV (As := [.int asking, .int 1]) (rest := []) hC (c_X4_asLooks l G ad wd asking 1) (cwV 2 hts gX4_toldByKind_X4_asLooks rfl rfl rfl kd_X4_asLooks ⟨Nat.le_of_ble_eq_true rfl, Nat.le_of_ble_eq_true rfl⟩) (ro_preV hK f_o rfl hW) rfl rfl hl.1 rfl (lv_room (Nat.le_of_ble_eq_true rfl)) dX4_toldByKind_48 ⟨Nat.zero_le _, Nat.zero_le _⟩) ?_
    refine lv_istore (lv' := [(7, .int (w_asLooks wd asking 1)), (6, .int ((f_at 7 (wAs wd) asking 6) + 1)), (5, .int (if (lKind (wLw wd li)) = 6 then ((1 : Int32) <<< ((f_at 7 (wAs wd) asking 0) &&& 31)) ||| (((1 : Int32) <<< ((f_at 7 (wAs wd) asking 0) &&& 31)) - 1) else (1 : Int32) <<< ((f_at 7 (wAs wd) asking 0) &&& 31))), (0, .ref (ad 0)), (1, .ref (ad (10 + 5 * li))), (2, .int kept), (3, .int asking), (4, .int age)]) hx hb dX4_toldByKind_51 hl (by decide) rfl (fun ls hl => ?_)
    refine lv_iload_n hx hb dX4_toldByKind_53 rfl (lv_at hl 5 rfl) ?_
    refine lv_iload hx hb dX4_toldByKind_54 (lv_at hl 2 rfl) ?_
    refine lv_iand hx hb dX4_toldByKind_56 ?_
    refine lv_iload hx hb dX4_toldByKind_57 (lv_at hl 2 rfl) ?_
    refine join_at (nL := 10) 69 [(7, .int (w_asLooks wd asking 1)), (6, .int ((f_at 7 (wAs wd) asking 6) + 1)), (5, .int (if (lKind (wLw wd li)) = 6 then ((1 : Int32) <<< ((f_at 7 (wAs wd) asking 0) &&& 31)) ||| (((1 : Int32) <<< ((f_at 7 (wAs wd) asking 0) &&& 31)) - 1) else (1 : Int32) <<< ((f_at 7 (wAs wd) asking 0) &&& 31))), (0, .ref (ad 0)), (1, .ref (ad (10 + 5 * li))), (2, .int kept), (3, .int asking), (4, .int age)] [.int (if (kept &&& (if (lKind (wLw wd li)) = 6 then ((1 : Int32) <<< ((f_at 7 (wAs wd) asking 0) &&& 31)) ||| (((1 : Int32) <<< ((f_at 7 (wAs wd) asking 0) &&& 31)) - 1) else (1 : Int32) <<< ((f_at 7 (wAs wd) asking 0) &&& 31))) = (if (lKind (wLw wd li)) = 6 then ((1 : Int32) <<< ((f_at 7 (wAs wd) asking 0) &&& 31)) ||| (((1 : Int32) <<< ((f_at 7 (wAs wd) asking 0) &&& 31)) - 1) else (1 : Int32) <<< ((f_at 7 (wAs wd) asking 0) &&& 31)) then (f_at 7 (wAs wd) asking 6) + 1 else w_asLooks wd asking 1)] (fun ls hl => ?_) (fun J_2 => ?_)
    · refine lv_istore (lv' := [(8, .int (if (kept &&& (if (lKind (wLw wd li)) = 6 then ((1 : Int32) <<< ((f_at 7 (wAs wd) asking 0) &&& 31)) ||| (((1 : Int32) <<< ((f_at 7 (wAs wd) asking 0) &&& 31)) - 1) else (1 : Int32) <<< ((f_at 7 (wAs wd) asking 0) &&& 31))) = (if (lKind (wLw wd li)) = 6 then ((1 : Int32) <<< ((f_at 7 (wAs wd) asking 0) &&& 31)) ||| (((1 : Int32) <<< ((f_at 7 (wAs wd) asking 0) &&& 31)) - 1) else (1 : Int32) <<< ((f_at 7 (wAs wd) asking 0) &&& 31)) then (f_at 7 (wAs wd) asking 6) + 1 else w_asLooks wd asking 1)), (7, .int (w_asLooks wd asking 1)), (6, .int ((f_at 7 (wAs wd) asking 6) + 1)), (5, .int (if (lKind (wLw wd li)) = 6 then ((1 : Int32) <<< ((f_at 7 (wAs wd) asking 0) &&& 31)) ||| (((1 : Int32) <<< ((f_at 7 (wAs wd) asking 0) &&& 31)) - 1) else (1 : Int32) <<< ((f_at 7 (wAs wd) asking 0) &&& 31))), (0, .ref (ad 0)), (1, .ref (ad (10 + 5 * li))), (2, .int kept), (3, .int asking), (4, .int age)]) hx hb dX4_toldByKind_69 hl (by decide) rfl (fun ls hl => ?_)
      refine lv_aload_n hx hb dX4_toldByKind_71 rfl (lv_at hl 5 rfl) ?_
      refine r_get (C := RX1) (T := TX1) (N := 8) hx hb hts i_X4_toldByKind_X1 hown hK (f_lw _ hli).1 rfl 1 (by decide) k_X4_toldByKind_fieldLink_102 rfl rfl dX4_toldByKind_72 ?_
      rcases Classical.em ((lKind (wLw wd li)) = 1) with h_3 | h_3
      · refine lv_tableIn (off := 37) (tgt := 112) hx hb dX4_toldByKind_75 (by rw [h_3]; decide) (by rw [h_3]; decide) (by rw [h_3]; rfl) (by decide) ?_
        refine lv_aload_n hx hb dX4_toldByKind_112 rfl (lv_at hl 4 rfl) ?_
        refine lv_iload_n hx hb dX4_toldByKind_113 rfl (lv_at hl 7 rfl) ?_
        refine lv_aload_n hx hb dX4_toldByKind_114 rfl (lv_at hl 5 rfl) ?_
        refine r_get (C := RX1) (T := TX1) (N := 8) hx hb hts i_X4_toldByKind_X1 hown hK (f_lw _ hli).1 rfl 2 (by decide) k_X4_toldByKind_fieldLink_108 rfl rfl dX4_toldByKind_115 ?_
        refine ro_call (va_runV (As := [.int asking, .int (lV (wLw wd li))]) (rest := []) hC (c_X4_asLooks l G ad wd asking (lV (wLw wd li))) (cwV 2 hts gX4_toldByKind_X4_asLooks rfl rfl rfl kd_X4_asLooks ⟨Nat.le_of_ble_eq_true rfl, Nat.le_of_ble_eq_true rfl⟩) (ro_preV hK f_o rfl hW) rfl rfl hl.1 rfl (lv_room (Nat.le_of_ble_eq_true rfl)) dX4_toldByKind_118 ⟨Nat.zero_le _, Nat.zero_le _⟩) ?_
        exact ro_iret hx hb hr hlocks dX4_toldByKind_121 (by (try unfold w_toldByKind); (repeat rw [if_pos h_3]); first | done | rfl)
      · rcases Classical.em ((lKind (wLw wd li)) = 2) with h_4 | h_4
        · refine lv_tableIn (off := 84) (tgt := 159) hx hb dX4_toldByKind_75 (by rw [h_4]; decide) (by rw [h_4]; decide) (by rw [h_4]; rfl) (by decide) ?_
          refine lv_iload hx hb dX4_toldByKind_159 (lv_at hl 0 rfl) ?_
          exact ro_iret hx hb hr hlocks dX4_toldByKind_161 (by (try unfold w_toldByKind); (repeat rw [if_neg h_3]); (repeat rw [if_pos h_4]); first | done | rfl)
        · rcases Classical.em ((lKind (wLw wd li)) = 3) with h_5 | h_5
          · refine lv_tableIn (off := 120) (tgt := 195) hx hb dX4_toldByKind_75 (by rw [h_5]; decide) (by rw [h_5]; decide) (by rw [h_5]; rfl) (by decide) ?_
            refine lv_iload hx hb dX4_toldByKind_195 (lv_at hl 0 rfl) ?_
            refine lv_iconst (v := 1) hx hb dX4_toldByKind_197 (by decide) ?_
            refine join_at (nL := 10) 216 [(8, .int (if (kept &&& (if (lKind (wLw wd li)) = 6 then ((1 : Int32) <<< ((f_at 7 (wAs wd) asking 0) &&& 31)) ||| (((1 : Int32) <<< ((f_at 7 (wAs wd) asking 0) &&& 31)) - 1) else (1 : Int32) <<< ((f_at 7 (wAs wd) asking 0) &&& 31))) = (if (lKind (wLw wd li)) = 6 then ((1 : Int32) <<< ((f_at 7 (wAs wd) asking 0) &&& 31)) ||| (((1 : Int32) <<< ((f_at 7 (wAs wd) asking 0) &&& 31)) - 1) else (1 : Int32) <<< ((f_at 7 (wAs wd) asking 0) &&& 31)) then (f_at 7 (wAs wd) asking 6) + 1 else w_asLooks wd asking 1)), (7, .int (w_asLooks wd asking 1)), (6, .int ((f_at 7 (wAs wd) asking 6) + 1)), (5, .int (if (lKind (wLw wd li)) = 6 then ((1 : Int32) <<< ((f_at 7 (wAs wd) asking 0) &&& 31)) ||| (((1 : Int32) <<< ((f_at 7 (wAs wd) asking 0) &&& 31)) - 1) else (1 : Int32) <<< ((f_at 7 (wAs wd) asking 0) &&& 31))), (0, .ref (ad 0)), (1, .ref (ad (10 + 5 * li))), (2, .int kept), (3, .int asking), (4, .int age)] [.int (if (if (kept &&& (if (lKind (wLw wd li)) = 6 then ((1 : Int32) <<< ((f_at 7 (wAs wd) asking 0) &&& 31)) ||| (((1 : Int32) <<< ((f_at 7 (wAs wd) asking 0) &&& 31)) - 1) else (1 : Int32) <<< ((f_at 7 (wAs wd) asking 0) &&& 31))) = (if (lKind (wLw wd li)) = 6 then ((1 : Int32) <<< ((f_at 7 (wAs wd) asking 0) &&& 31)) ||| (((1 : Int32) <<< ((f_at 7 (wAs wd) asking 0) &&& 31)) - 1) else (1 : Int32) <<< ((f_at 7 (wAs wd) asking 0) &&& 31)) then (f_at 7 (wAs wd) asking 6) + 1 else w_asLooks wd asking 1) = 1 then if (w_isPressed wd asking) = true then w_asLooks wd asking 1 else if (kept &&& (if (lKind (wLw wd li)) = 6 then ((1 : Int32) <<< ((f_at 7 (wAs wd) asking 0) &&& 31)) ||| (((1 : Int32) <<< ((f_at 7 (wAs wd) asking 0) &&& 31)) - 1) else (1 : Int32) <<< ((f_at 7 (wAs wd) asking 0) &&& 31))) = (if (lKind (wLw wd li)) = 6 then ((1 : Int32) <<< ((f_at 7 (wAs wd) asking 0) &&& 31)) ||| (((1 : Int32) <<< ((f_at 7 (wAs wd) asking 0) &&& 31)) - 1) else (1 : Int32) <<< ((f_at 7 (wAs wd) asking 0) &&& 31)) then (f_at 7 (wAs wd) asking 6) + 1 else w_asLooks wd asking 1 else if (kept &&& (if (lKind (wLw wd li)) = 6 then ((1 : Int32) <<< ((f_at 7 (wAs wd) asking 0) &&& 31)) ||| (((1 : Int32) <<< ((f_at 7 (wAs wd) asking 0) &&& 31)) - 1) else (1 : Int32) <<< ((f_at 7 (wAs wd) asking 0) &&& 31))) = (if (lKind (wLw wd li)) = 6 then ((1 : Int32) <<< ((f_at 7 (wAs wd) asking 0) &&& 31)) ||| (((1 : Int32) <<< ((f_at 7 (wAs wd) asking 0) &&& 31)) - 1) else (1 : Int32) <<< ((f_at 7 (wAs wd) asking 0) &&& 31)) then (f_at 7 (wAs wd) asking 6) + 1 else w_asLooks wd asking 1)] (fun ls hl => ?_) (fun J_6 => ?_)
            · exact ro_iret hx hb hr hlocks dX4_toldByKind_216 (by (try unfold w_toldByKind); (repeat rw [if_neg h_3]); (repeat rw [if_neg h_4]); (repeat rw [if_pos h_5]); first | done | rfl)
            · refine lv_icmp_ne (tgt := 214) hx hb dX4_toldByKind_198 (by decide) (fun h_7 => ?_) (fun h_7 => ?_)
              · refine lv_iload hx hb dX4_toldByKind_214 (lv_at hl 0 rfl) ?_
                have hJ := J_6; (repeat rw [if_neg h_7] at hJ)
                first | exact hJ ls (lv_sub hl [0, 1, 2, 3, 4, 5, 6, 7, 8] rfl) | ((repeat rw [if_neg h_7] at hl); (repeat rw [if_neg h_7]); exact hJ ls (lv_sub hl [0, 1, 2, 3, 4, 5, 6, 7, 8] rfl))
              · refine lv_aload_n hx hb dX4_toldByKind_201 rfl (lv_at hl 4 rfl) ?_
                refine lv_iload_n hx hb dX4_toldByKind_202 rfl (lv_at hl 7 rfl) ?_
                refine ro_call (va_runV (As := [.int asking]) (rest := []) hC (c_X4_isPressed l G ad wd asking) (cwV 1 hts gX4_toldByKind_X4_isPressed rfl rfl rfl kd_X4_isPressed ⟨Nat.le_of_ble_eq_true rfl, Nat.le_of_ble_eq_true rfl⟩) (ro_preV hK f_o rfl hW) rfl rfl hl.1 rfl (lv_room (Nat.le_of_ble_eq_true rfl)) dX4_toldByKind_203 ⟨Nat.zero_le _, Nat.zero_le _⟩) ?_
                refine bz_eq (tgt := 214) hx hb dX4_toldByKind_206 (by decide) (fun h_8 => ?_) (fun h_8 => ?_)
                · refine lv_iload hx hb dX4_toldByKind_214 (lv_at hl 0 rfl) ?_
                  have hJ := J_6; (repeat rw [if_pos h_7] at hJ); (repeat rw [if_neg h_8] at hJ)
                  first | exact hJ ls (lv_sub hl [0, 1, 2, 3, 4, 5, 6, 7, 8] rfl) | ((repeat rw [if_pos h_7] at hl); (repeat rw [if_neg h_8] at hl); (repeat rw [if_pos h_7]); (repeat rw [if_neg h_8]); exact hJ ls (lv_sub hl [0, 1, 2, 3, 4, 5, 6, 7, 8] rfl))
                · refine lv_iload hx hb dX4_toldByKind_209 (lv_at hl 1 rfl) ?_
                  refine lv_goto (tgt := 216) hx hb dX4_toldByKind_211 (by decide) ?_
                  have hJ := J_6; (repeat rw [if_pos h_7] at hJ); (repeat rw [if_pos h_8] at hJ)
                  first | exact hJ ls (lv_sub hl [0, 1, 2, 3, 4, 5, 6, 7, 8] rfl) | ((repeat rw [if_pos h_7] at hl); (repeat rw [if_pos h_8] at hl); (repeat rw [if_pos h_7]); (repeat rw [if_pos h_8]); exact hJ ls (lv_sub hl [0, 1, 2, 3, 4, 5, 6, 7, 8] rfl))
          · rcases Classical.em ((lKind (wLw wd li)) = 4) with h_9 | h_9
            · refine lv_tableIn (off := 47) (tgt := 122) hx hb dX4_toldByKind_75 (by rw [h_9]; decide) (by rw [h_9]; decide) (by rw [h_9]; rfl) (by decide) ?_
              refine lv_aload_n hx hb dX4_toldByKind_122 rfl (lv_at hl 4 rfl) ?_
              refine lv_iload_n hx hb dX4_toldByKind_123 rfl (lv_at hl 7 rfl) ?_
              refine lv_aload_n hx hb dX4_toldByKind_124 rfl (lv_at hl 5 rfl) ?_
              refine r_get (C := RX1) (T := TX1) (N := 8) hx hb hts i_X4_toldByKind_X1 hown hK (f_lw _ hli).1 rfl 2 (by decide) k_X4_toldByKind_fieldLink_108 rfl rfl dX4_toldByKind_125 ?_
              refine ro_call (va_runV (As := [.int asking, .int (lV (wLw wd li))]) (rest := []) hC (c_X4_asLooks l G ad wd asking (lV (wLw wd li))) (cwV 2 hts gX4_toldByKind_X4_asLooks rfl rfl rfl kd_X4_asLooks ⟨Nat.le_of_ble_eq_true rfl, Nat.le_of_ble_eq_true rfl⟩) (ro_preV hK f_o rfl hW) rfl rfl hl.1 rfl (lv_room (Nat.le_of_ble_eq_true rfl)) dX4_toldByKind_128 ⟨Nat.zero_le _, Nat.zero_le _⟩) ?_
              refine lv_istore (lv' := [(9, .int (w_asLooks wd asking (lV (wLw wd li)))), (8, .int (if (kept &&& (if (lKind (wLw wd li)) = 6 then ((1 : Int32) <<< ((f_at 7 (wAs wd) asking 0) &&& 31)) ||| (((1 : Int32) <<< ((f_at 7 (wAs wd) asking 0) &&& 31)) - 1) else (1 : Int32) <<< ((f_at 7 (wAs wd) asking 0) &&& 31))) = (if (lKind (wLw wd li)) = 6 then ((1 : Int32) <<< ((f_at 7 (wAs wd) asking 0) &&& 31)) ||| (((1 : Int32) <<< ((f_at 7 (wAs wd) asking 0) &&& 31)) - 1) else (1 : Int32) <<< ((f_at 7 (wAs wd) asking 0) &&& 31)) then (f_at 7 (wAs wd) asking 6) + 1 else w_asLooks wd asking 1)), (7, .int (w_asLooks wd asking 1)), (6, .int ((f_at 7 (wAs wd) asking 6) + 1)), (5, .int (if (lKind (wLw wd li)) = 6 then ((1 : Int32) <<< ((f_at 7 (wAs wd) asking 0) &&& 31)) ||| (((1 : Int32) <<< ((f_at 7 (wAs wd) asking 0) &&& 31)) - 1) else (1 : Int32) <<< ((f_at 7 (wAs wd) asking 0) &&& 31))), (0, .ref (ad 0)), (1, .ref (ad (10 + 5 * li))), (2, .int kept), (3, .int asking), (4, .int age)]) hx hb dX4_toldByKind_131 hl (by decide) rfl (fun ls hl => ?_)
              refine lv_aload_n hx hb dX4_toldByKind_133 rfl (lv_at hl 5 rfl) ?_
              refine r_get (C := RX4) (T := TX4) (N := 6) hx hb hts i_X4_toldByKind_X4 hown hK f_o rfl 1 (by decide) k_X4_toldByKind_fieldLink_20 rfl rfl dX4_toldByKind_134 ?_
              refine lv_iload_n hx hb dX4_toldByKind_137 rfl (lv_at hl 8 rfl) ?_
              refine lv_iconst (v := 4) hx hb dX4_toldByKind_138 (by decide) ?_
              refine ro_call (va_runV (As := [.int asking, .int 4]) (rest := []) hC (c_X2_at l G (ad 3) (ad 4) 16 7 (wAs wd) asking 4) (cwV 2 hts gX4_toldByKind_X2_at rfl rfl rfl kd_X2_at ⟨Nat.le_of_ble_eq_true rfl, Nat.le_of_ble_eq_true rfl⟩) (ro_preV hK f_as.1 rfl f_as) rfl rfl hl.1 rfl (lv_room (Nat.le_of_ble_eq_true rfl)) dX4_toldByKind_139 ⟨Nat.zero_le _, Nat.zero_le _⟩) ?_
              refine lv_aload_n hx hb dX4_toldByKind_142 rfl (lv_at hl 6 rfl) ?_
              refine r_get (C := RX1) (T := TX1) (N := 8) hx hb hts i_X4_toldByKind_X1 hown hK (f_lw _ hli).1 rfl 2 (by decide) k_X4_toldByKind_fieldLink_108 rfl rfl dX4_toldByKind_143 ?_
              refine join_at (nL := 10) 158 [(9, .int (w_asLooks wd asking (lV (wLw wd li)))), (8, .int (if (kept &&& (if (lKind (wLw wd li)) = 6 then ((1 : Int32) <<< ((f_at 7 (wAs wd) asking 0) &&& 31)) ||| (((1 : Int32) <<< ((f_at 7 (wAs wd) asking 0) &&& 31)) - 1) else (1 : Int32) <<< ((f_at 7 (wAs wd) asking 0) &&& 31))) = (if (lKind (wLw wd li)) = 6 then ((1 : Int32) <<< ((f_at 7 (wAs wd) asking 0) &&& 31)) ||| (((1 : Int32) <<< ((f_at 7 (wAs wd) asking 0) &&& 31)) - 1) else (1 : Int32) <<< ((f_at 7 (wAs wd) asking 0) &&& 31)) then (f_at 7 (wAs wd) asking 6) + 1 else w_asLooks wd asking 1)), (7, .int (w_asLooks wd asking 1)), (6, .int ((f_at 7 (wAs wd) asking 6) + 1)), (5, .int (if (lKind (wLw wd li)) = 6 then ((1 : Int32) <<< ((f_at 7 (wAs wd) asking 0) &&& 31)) ||| (((1 : Int32) <<< ((f_at 7 (wAs wd) asking 0) &&& 31)) - 1) else (1 : Int32) <<< ((f_at 7 (wAs wd) asking 0) &&& 31))), (0, .ref (ad 0)), (1, .ref (ad (10 + 5 * li))), (2, .int kept), (3, .int asking), (4, .int age)] [.int (if (f_at 7 (wAs wd) asking 4) = (lV (wLw wd li)) then 2 - (w_asLooks wd asking (lV (wLw wd li))) else w_asLooks wd asking (lV (wLw wd li)))] (fun ls hl => ?_) (fun J_10 => ?_)
              · exact ro_iret hx hb hr hlocks dX4_toldByKind_158 (by (try unfold w_toldByKind); (repeat rw [if_neg h_3]); (repeat rw [if_neg h_4]); (repeat rw [if_neg h_5]); (repeat rw [if_pos h_9]); first | done | rfl)
              · refine lv_icmp_ne (tgt := 156) hx hb dX4_toldByKind_146 (by decide) (fun h_11 => ?_) (fun h_11 => ?_)
                · refine lv_iload hx hb dX4_toldByKind_156 (lv_at hl 0 rfl) ?_
                  have hJ := J_10; (repeat rw [if_neg h_11] at hJ)
                  first | exact hJ ls (lv_sub hl [0, 1, 2, 3, 4, 5, 6, 7, 8, 9] rfl) | ((repeat rw [if_neg h_11] at hl); (repeat rw [if_neg h_11]); exact hJ ls (lv_sub hl [0, 1, 2, 3, 4, 5, 6, 7, 8, 9] rfl))
                · refine lv_iconst (v := 2) hx hb dX4_toldByKind_149 (by decide) ?_
                  refine lv_iload hx hb dX4_toldByKind_150 (lv_at hl 0 rfl) ?_
                  refine lv_isub hx hb dX4_toldByKind_152 ?_
                  refine lv_goto (tgt := 158) hx hb dX4_toldByKind_153 (by decide) ?_
                  have hJ := J_10; (repeat rw [if_pos h_11] at hJ)
                  first | exact hJ ls (lv_sub hl [0, 1, 2, 3, 4, 5, 6, 7, 8, 9] rfl) | ((repeat rw [if_pos h_11] at hl); (repeat rw [if_pos h_11]); exact hJ ls (lv_sub hl [0, 1, 2, 3, 4, 5, 6, 7, 8, 9] rfl))
            · rcases Classical.em ((lKind (wLw wd li)) = 5) with h_12 | h_12
              · refine lv_tableIn (off := 87) (tgt := 162) hx hb dX4_toldByKind_75 (by rw [h_12]; decide) (by rw [h_12]; decide) (by rw [h_12]; rfl) (by decide) ?_
                refine lv_aload_n hx hb dX4_toldByKind_162 rfl (lv_at hl 4 rfl) ?_
                refine r_get (C := RX4) (T := TX4) (N := 6) hx hb hts i_X4_toldByKind_X4 hown hK f_o rfl 1 (by decide) k_X4_toldByKind_fieldLink_20 rfl rfl dX4_toldByKind_163 ?_
                refine lv_iload_n hx hb dX4_toldByKind_166 rfl (lv_at hl 7 rfl) ?_
                refine lv_iconst (v := 3) hx hb dX4_toldByKind_167 (by decide) ?_
                refine ro_call (va_runV (As := [.int asking, .int 3]) (rest := []) hC (c_X2_at l G (ad 3) (ad 4) 16 7 (wAs wd) asking 3) (cwV 2 hts gX4_toldByKind_X2_at rfl rfl rfl kd_X2_at ⟨Nat.le_of_ble_eq_true rfl, Nat.le_of_ble_eq_true rfl⟩) (ro_preV hK f_as.1 rfl f_as) rfl rfl hl.1 rfl (lv_room (Nat.le_of_ble_eq_true rfl)) dX4_toldByKind_168 ⟨Nat.zero_le _, Nat.zero_le _⟩) ?_
                refine lv_iconst (v := 1) hx hb dX4_toldByKind_171 (by decide) ?_
                refine join_at (nL := 10) 194 [(8, .int (if (kept &&& (if (lKind (wLw wd li)) = 6 then ((1 : Int32) <<< ((f_at 7 (wAs wd) asking 0) &&& 31)) ||| (((1 : Int32) <<< ((f_at 7 (wAs wd) asking 0) &&& 31)) - 1) else (1 : Int32) <<< ((f_at 7 (wAs wd) asking 0) &&& 31))) = (if (lKind (wLw wd li)) = 6 then ((1 : Int32) <<< ((f_at 7 (wAs wd) asking 0) &&& 31)) ||| (((1 : Int32) <<< ((f_at 7 (wAs wd) asking 0) &&& 31)) - 1) else (1 : Int32) <<< ((f_at 7 (wAs wd) asking 0) &&& 31)) then (f_at 7 (wAs wd) asking 6) + 1 else w_asLooks wd asking 1)), (7, .int (w_asLooks wd asking 1)), (6, .int ((f_at 7 (wAs wd) asking 6) + 1)), (5, .int (if (lKind (wLw wd li)) = 6 then ((1 : Int32) <<< ((f_at 7 (wAs wd) asking 0) &&& 31)) ||| (((1 : Int32) <<< ((f_at 7 (wAs wd) asking 0) &&& 31)) - 1) else (1 : Int32) <<< ((f_at 7 (wAs wd) asking 0) &&& 31))), (0, .ref (ad 0)), (1, .ref (ad (10 + 5 * li))), (2, .int kept), (3, .int asking), (4, .int age)] [.int (if (f_at 7 (wAs wd) asking 3) = 1 then if age < (6 * (lV (wLw wd li))) then if (kept &&& (if (lKind (wLw wd li)) = 6 then ((1 : Int32) <<< ((f_at 7 (wAs wd) asking 0) &&& 31)) ||| (((1 : Int32) <<< ((f_at 7 (wAs wd) asking 0) &&& 31)) - 1) else (1 : Int32) <<< ((f_at 7 (wAs wd) asking 0) &&& 31))) = (if (lKind (wLw wd li)) = 6 then ((1 : Int32) <<< ((f_at 7 (wAs wd) asking 0) &&& 31)) ||| (((1 : Int32) <<< ((f_at 7 (wAs wd) asking 0) &&& 31)) - 1) else (1 : Int32) <<< ((f_at 7 (wAs wd) asking 0) &&& 31)) then (f_at 7 (wAs wd) asking 6) + 1 else w_asLooks wd asking 1 else (f_at 7 (wAs wd) asking 6) + 1 else if (kept &&& (if (lKind (wLw wd li)) = 6 then ((1 : Int32) <<< ((f_at 7 (wAs wd) asking 0) &&& 31)) ||| (((1 : Int32) <<< ((f_at 7 (wAs wd) asking 0) &&& 31)) - 1) else (1 : Int32) <<< ((f_at 7 (wAs wd) asking 0) &&& 31))) = (if (lKind (wLw wd li)) = 6 then ((1 : Int32) <<< ((f_at 7 (wAs wd) asking 0) &&& 31)) ||| (((1 : Int32) <<< ((f_at 7 (wAs wd) asking 0) &&& 31)) - 1) else (1 : Int32) <<< ((f_at 7 (wAs wd) asking 0) &&& 31)) then (f_at 7 (wAs wd) asking 6) + 1 else w_asLooks wd asking 1)] (fun ls hl => ?_) (fun J_13 => ?_)
                · exact ro_iret hx hb hr hlocks dX4_toldByKind_194 (by (try unfold w_toldByKind); (repeat rw [if_neg h_3]); (repeat rw [if_neg h_4]); (repeat rw [if_neg h_5]); (repeat rw [if_neg h_9]); (repeat rw [if_pos h_12]); first | done | rfl)
                · refine lv_icmp_ne (tgt := 192) hx hb dX4_toldByKind_172 (by decide) (fun h_14 => ?_) (fun h_14 => ?_)
                  · refine lv_iload hx hb dX4_toldByKind_192 (lv_at hl 0 rfl) ?_
                    have hJ := J_13; (repeat rw [if_neg h_14] at hJ)
                    first | exact hJ ls (lv_sub hl [0, 1, 2, 3, 4, 5, 6, 7, 8] rfl) | ((repeat rw [if_neg h_14] at hl); (repeat rw [if_neg h_14]); exact hJ ls (lv_sub hl [0, 1, 2, 3, 4, 5, 6, 7, 8] rfl))
                  · refine lv_iload hx hb dX4_toldByKind_175 (lv_at hl 8 rfl) ?_
                    refine lv_bipush (v := 6) hx hb dX4_toldByKind_177 (by decide +kernel) ?_
                    refine lv_aload_n hx hb dX4_toldByKind_179 rfl (lv_at hl 5 rfl) ?_
                    refine r_get (C := RX1) (T := TX1) (N := 8) hx hb hts i_X4_toldByKind_X1 hown hK (f_lw _ hli).1 rfl 2 (by decide) k_X4_toldByKind_fieldLink_108 rfl rfl dX4_toldByKind_180 ?_
                    refine lv_imul hx hb dX4_toldByKind_183 ?_
                    refine lv_icmp_lt (tgt := 192) hx hb dX4_toldByKind_184 (by decide) (fun h_15 => ?_) (fun h_15 => ?_)
                    · refine lv_iload hx hb dX4_toldByKind_192 (lv_at hl 0 rfl) ?_
                      have hJ := J_13; (repeat rw [if_pos h_14] at hJ); (repeat rw [if_pos h_15] at hJ)
                      first | exact hJ ls (lv_sub hl [0, 1, 2, 3, 4, 5, 6, 7, 8] rfl) | ((repeat rw [if_pos h_14] at hl); (repeat rw [if_pos h_15] at hl); (repeat rw [if_pos h_14]); (repeat rw [if_pos h_15]); exact hJ ls (lv_sub hl [0, 1, 2, 3, 4, 5, 6, 7, 8] rfl))
                    · refine lv_iload hx hb dX4_toldByKind_187 (lv_at hl 2 rfl) ?_
                      refine lv_goto (tgt := 194) hx hb dX4_toldByKind_189 (by decide) ?_
                      have hJ := J_13; (repeat rw [if_pos h_14] at hJ); (repeat rw [if_neg h_15] at hJ)
                      first | exact hJ ls (lv_sub hl [0, 1, 2, 3, 4, 5, 6, 7, 8] rfl) | ((repeat rw [if_pos h_14] at hl); (repeat rw [if_neg h_15] at hl); (repeat rw [if_pos h_14]); (repeat rw [if_neg h_15]); exact hJ ls (lv_sub hl [0, 1, 2, 3, 4, 5, 6, 7, 8] rfl))
              · rcases Classical.em ((lKind (wLw wd li)) = 6) with h_16 | h_16
                · refine lv_tableIn (off := 120) (tgt := 195) hx hb dX4_toldByKind_75 (by rw [h_16]; decide) (by rw [h_16]; decide) (by rw [h_16]; rfl) (by decide) ?_
                  refine lv_iload hx hb dX4_toldByKind_195 (lv_at hl 0 rfl) ?_
                  refine lv_iconst (v := 1) hx hb dX4_toldByKind_197 (by decide) ?_
                  refine join_at (nL := 10) 216 [(8, .int (if (kept &&& (if (lKind (wLw wd li)) = 6 then ((1 : Int32) <<< ((f_at 7 (wAs wd) asking 0) &&& 31)) ||| (((1 : Int32) <<< ((f_at 7 (wAs wd) asking 0) &&& 31)) - 1) else (1 : Int32) <<< ((f_at 7 (wAs wd) asking 0) &&& 31))) = (if (lKind (wLw wd li)) = 6 then ((1 : Int32) <<< ((f_at 7 (wAs wd) asking 0) &&& 31)) ||| (((1 : Int32) <<< ((f_at 7 (wAs wd) asking 0) &&& 31)) - 1) else (1 : Int32) <<< ((f_at 7 (wAs wd) asking 0) &&& 31)) then (f_at 7 (wAs wd) asking 6) + 1 else w_asLooks wd asking 1)), (7, .int (w_asLooks wd asking 1)), (6, .int ((f_at 7 (wAs wd) asking 6) + 1)), (5, .int (if (lKind (wLw wd li)) = 6 then ((1 : Int32) <<< ((f_at 7 (wAs wd) asking 0) &&& 31)) ||| (((1 : Int32) <<< ((f_at 7 (wAs wd) asking 0) &&& 31)) - 1) else (1 : Int32) <<< ((f_at 7 (wAs wd) asking 0) &&& 31))), (0, .ref (ad 0)), (1, .ref (ad (10 + 5 * li))), (2, .int kept), (3, .int asking), (4, .int age)] [.int (if (if (kept &&& (if (lKind (wLw wd li)) = 6 then ((1 : Int32) <<< ((f_at 7 (wAs wd) asking 0) &&& 31)) ||| (((1 : Int32) <<< ((f_at 7 (wAs wd) asking 0) &&& 31)) - 1) else (1 : Int32) <<< ((f_at 7 (wAs wd) asking 0) &&& 31))) = (if (lKind (wLw wd li)) = 6 then ((1 : Int32) <<< ((f_at 7 (wAs wd) asking 0) &&& 31)) ||| (((1 : Int32) <<< ((f_at 7 (wAs wd) asking 0) &&& 31)) - 1) else (1 : Int32) <<< ((f_at 7 (wAs wd) asking 0) &&& 31)) then (f_at 7 (wAs wd) asking 6) + 1 else w_asLooks wd asking 1) = 1 then if (w_isPressed wd asking) = true then w_asLooks wd asking 1 else if (kept &&& (if (lKind (wLw wd li)) = 6 then ((1 : Int32) <<< ((f_at 7 (wAs wd) asking 0) &&& 31)) ||| (((1 : Int32) <<< ((f_at 7 (wAs wd) asking 0) &&& 31)) - 1) else (1 : Int32) <<< ((f_at 7 (wAs wd) asking 0) &&& 31))) = (if (lKind (wLw wd li)) = 6 then ((1 : Int32) <<< ((f_at 7 (wAs wd) asking 0) &&& 31)) ||| (((1 : Int32) <<< ((f_at 7 (wAs wd) asking 0) &&& 31)) - 1) else (1 : Int32) <<< ((f_at 7 (wAs wd) asking 0) &&& 31)) then (f_at 7 (wAs wd) asking 6) + 1 else w_asLooks wd asking 1 else if (kept &&& (if (lKind (wLw wd li)) = 6 then ((1 : Int32) <<< ((f_at 7 (wAs wd) asking 0) &&& 31)) ||| (((1 : Int32) <<< ((f_at 7 (wAs wd) asking 0) &&& 31)) - 1) else (1 : Int32) <<< ((f_at 7 (wAs wd) asking 0) &&& 31))) = (if (lKind (wLw wd li)) = 6 then ((1 : Int32) <<< ((f_at 7 (wAs wd) asking 0) &&& 31)) ||| (((1 : Int32) <<< ((f_at 7 (wAs wd) asking 0) &&& 31)) - 1) else (1 : Int32) <<< ((f_at 7 (wAs wd) asking 0) &&& 31)) then (f_at 7 (wAs wd) asking 6) + 1 else w_asLooks wd asking 1)] (fun ls hl => ?_) (fun J_17 => ?_)
                  · exact ro_iret hx hb hr hlocks dX4_toldByKind_216 (by (try unfold w_toldByKind); (repeat rw [if_neg h_3]); (repeat rw [if_neg h_4]); (repeat rw [if_neg h_5]); (repeat rw [if_neg h_9]); (repeat rw [if_neg h_12]); (repeat rw [if_pos h_16]); first | done | rfl)
                  · refine lv_icmp_ne (tgt := 214) hx hb dX4_toldByKind_198 (by decide) (fun h_18 => ?_) (fun h_18 => ?_)
                    · refine lv_iload hx hb dX4_toldByKind_214 (lv_at hl 0 rfl) ?_
                      have hJ := J_17; (repeat rw [if_neg h_18] at hJ)
                      first | exact hJ ls (lv_sub hl [0, 1, 2, 3, 4, 5, 6, 7, 8] rfl) | ((repeat rw [if_neg h_18] at hl); (repeat rw [if_neg h_18]); exact hJ ls (lv_sub hl [0, 1, 2, 3, 4, 5, 6, 7, 8] rfl))
                    · refine lv_aload_n hx hb dX4_toldByKind_201 rfl (lv_at hl 4 rfl) ?_
                      refine lv_iload_n hx hb dX4_toldByKind_202 rfl (lv_at hl 7 rfl) ?_
                      refine ro_call (va_runV (As := [.int asking]) (rest := []) hC (c_X4_isPressed l G ad wd asking) (cwV 1 hts gX4_toldByKind_X4_isPressed rfl rfl rfl kd_X4_isPressed ⟨Nat.le_of_ble_eq_true rfl, Nat.le_of_ble_eq_true rfl⟩) (ro_preV hK f_o rfl hW) rfl rfl hl.1 rfl (lv_room (Nat.le_of_ble_eq_true rfl)) dX4_toldByKind_203 ⟨Nat.zero_le _, Nat.zero_le _⟩) ?_
                      refine bz_eq (tgt := 214) hx hb dX4_toldByKind_206 (by decide) (fun h_19 => ?_) (fun h_19 => ?_)
                      · refine lv_iload hx hb dX4_toldByKind_214 (lv_at hl 0 rfl) ?_
                        have hJ := J_17; (repeat rw [if_pos h_18] at hJ); (repeat rw [if_neg h_19] at hJ)
                        first | exact hJ ls (lv_sub hl [0, 1, 2, 3, 4, 5, 6, 7, 8] rfl) | ((repeat rw [if_pos h_18] at hl); (repeat rw [if_neg h_19] at hl); (repeat rw [if_pos h_18]); (repeat rw [if_neg h_19]); exact hJ ls (lv_sub hl [0, 1, 2, 3, 4, 5, 6, 7, 8] rfl))
                      · refine lv_iload hx hb dX4_toldByKind_209 (lv_at hl 1 rfl) ?_
                        refine lv_goto (tgt := 216) hx hb dX4_toldByKind_211 (by decide) ?_
                        have hJ := J_17; (repeat rw [if_pos h_18] at hJ); (repeat rw [if_pos h_19] at hJ)
                        first | exact hJ ls (lv_sub hl [0, 1, 2, 3, 4, 5, 6, 7, 8] rfl) | ((repeat rw [if_pos h_18] at hl); (repeat rw [if_pos h_19] at hl); (repeat rw [if_pos h_18]); (repeat rw [if_pos h_19]); exact hJ ls (lv_sub hl [0, 1, 2, 3, 4, 5, 6, 7, 8] rfl))
                · refine lv_tableOut (tgt := 217) hx hb dX4_toldByKind_75 (by have z0 := lv_neT h_3 (a := 1) rfl; have z1 := lv_neT h_4 (a := 2) rfl; have z2 := lv_neT h_5 (a := 3) rfl; have z3 := lv_neT h_9 (a := 4) rfl; have z4 := lv_neT h_12 (a := 5) rfl; have z5 := lv_neT h_16 (a := 6) rfl; omega) (by decide) ?_
                  refine lv_iconst (v := 1) hx hb dX4_toldByKind_217 (by decide) ?_
                  exact ro_iret hx hb hr hlocks dX4_toldByKind_218 (by (try unfold w_toldByKind); (repeat rw [if_neg h_3]); (repeat rw [if_neg h_4]); (repeat rw [if_neg h_5]); (repeat rw [if_neg h_9]); (repeat rw [if_neg h_12]); (repeat rw [if_neg h_16]); first | done | rfl)
    · refine lv_icmp_ne (tgt := 67) hx hb dX4_toldByKind_59 (by decide) (fun h_20 => ?_) (fun h_20 => ?_)
      · refine lv_iload hx hb dX4_toldByKind_67 (lv_at hl 0 rfl) ?_
        have hJ := J_2; (repeat rw [if_neg h_20] at hJ)
        first | exact hJ ls (lv_sub hl [0, 1, 2, 3, 4, 5, 6, 7] rfl) | ((repeat rw [if_neg h_20] at hl); (repeat rw [if_neg h_20]); exact hJ ls (lv_sub hl [0, 1, 2, 3, 4, 5, 6, 7] rfl))
      · refine lv_iload hx hb dX4_toldByKind_62 (lv_at hl 1 rfl) ?_
        refine lv_goto (tgt := 69) hx hb dX4_toldByKind_64 (by decide) ?_
        have hJ := J_2; (repeat rw [if_pos h_20] at hJ)
        first | exact hJ ls (lv_sub hl [0, 1, 2, 3, 4, 5, 6, 7] rfl) | ((repeat rw [if_pos h_20] at hl); (repeat rw [if_pos h_20]); exact hJ ls (lv_sub hl [0, 1, 2, 3, 4, 5, 6, 7] rfl))
  · refine lv_icmp_ne (tgt := 31) hx hb dX4_toldByKind_19 (by decide) (fun h_21 => ?_) (fun h_21 => ?_)
    · have hJ := J_1; (repeat rw [if_neg h_21] at hJ)
      first | exact hJ ls (lv_sub hl [0, 1, 2, 3, 4, 5] rfl) | ((repeat rw [if_neg h_21] at hl); (repeat rw [if_neg h_21]); exact hJ ls (lv_sub hl [0, 1, 2, 3, 4, 5] rfl))
    · refine lv_iload hx hb dX4_toldByKind_22 (lv_at hl 0 rfl) ?_
      refine lv_iload hx hb dX4_toldByKind_24 (lv_at hl 0 rfl) ?_
      refine lv_iconst (v := 1) hx hb dX4_toldByKind_26 (by decide) ?_
      refine lv_isub hx hb dX4_toldByKind_27 ?_
      refine lv_ior hx hb dX4_toldByKind_28 ?_
      refine lv_istore (lv' := [(5, .int (((1 : Int32) <<< ((f_at 7 (wAs wd) asking 0) &&& 31)) ||| (((1 : Int32) <<< ((f_at 7 (wAs wd) asking 0) &&& 31)) - 1))), (0, .ref (ad 0)), (1, .ref (ad (10 + 5 * li))), (2, .int kept), (3, .int asking), (4, .int age)]) hx hb dX4_toldByKind_29 hl (by decide) rfl (fun ls hl => ?_)
      have hJ := J_1; (repeat rw [if_pos h_21] at hJ)
      first | exact hJ ls (lv_sub hl [0, 1, 2, 3, 4, 5] rfl) | ((repeat rw [if_pos h_21] at hl); (repeat rw [if_pos h_21]); exact hJ ls (lv_sub hl [0, 1, 2, 3, 4, 5] rfl))
theorem i_X4_toldAt_X4 : ∀ w ∈ wsX40, w ∈ wsX4_toldAt := fun _ h => List.mem_cons_of_mem _ (List.mem_append_left _ (List.mem_append_left _ (List.mem_append_right _ h)))
theorem k_X4_toldAt_fieldLink_35 : Cond.fieldLink RX4 35 "SameWater$World" "laws" "[LSameWater$Law;" ∈ wsX4_toldAt := by decide +kernel
theorem k_X4_toldAt_fieldLink_20 : Cond.fieldLink RX4 20 "SameWater$World" "askings" "LSameWater$Rows;" ∈ wsX4_toldAt := by decide +kernel
theorem kd_X4_hasLaw : yX4_hasLaw.cls = RX4 ∧ yX4_hasLaw.cls ≠ "java/lang/invoke/MethodHandle" ∧ yX4_hasLaw.cls ≠ "java/lang/invoke/VarHandle" ∧ (parseMethodDescriptor yX4_hasLaw.desc).map (fun d => d.parameters.length) = some 1 := by decide +kernel
theorem kd_X1_firstSaid : yX1_firstSaid.cls = RX1 ∧ yX1_firstSaid.cls ≠ "java/lang/invoke/MethodHandle" ∧ yX1_firstSaid.cls ≠ "java/lang/invoke/VarHandle" ∧ (parseMethodDescriptor yX1_firstSaid.desc).map (fun d => d.parameters.length) = some 3 := by decide +kernel
theorem kd_X4_keptAt : yX4_keptAt.cls = RX4 ∧ yX4_keptAt.cls ≠ "java/lang/invoke/MethodHandle" ∧ yX4_keptAt.cls ≠ "java/lang/invoke/VarHandle" ∧ (parseMethodDescriptor yX4_keptAt.desc).map (fun d => d.parameters.length) = some 3 := by decide +kernel
theorem kd_X4_toldByKind : yX4_toldByKind.cls = RX4 ∧ yX4_toldByKind.cls ≠ "java/lang/invoke/MethodHandle" ∧ yX4_toldByKind.cls ≠ "java/lang/invoke/VarHandle" ∧ (parseMethodDescriptor yX4_toldByKind.desc).map (fun d => d.parameters.length) = some 4 := by decide +kernel
def w_toldAt (wd : WT) (law : Int32) (child : Int32) (asking : Int32) (age : Int32) : Int32 := if (w_hasLaw wd law) = true then if (lx_firstSaid (wLw wd law.toNatClampNeg) (wAs wd) asking age) < 0 then w_toldByKind wd law.toNatClampNeg (w_keptAt wd law.toNatClampNeg child age) asking age else lx_firstSaid (wLw wd law.toNatClampNeg) (wAs wd) asking age else 1
set_option maxHeartbeats 4000000 in
set_option maxRecDepth 100000 in
theorem c_X4_toldAt (l : Launch) (G : GG) (ad : Nat → Nat) (wd : WT) (law : Int32) (child : Int32) (asking : Int32) (age : Int32)  : Met l yX4_toldAt wsX4_toldAt { frames := 3, cells := 0, slots := 0, locals := 92 } (roP G [.ref (ad 0), .int law, .int child, .int asking, .int age] (fun H => WAt G ad wd H)) (roQ (some (.int (w_toldAt wd law child asking age)))) 0 0 nF := by
  refine Met.ofW (cc := cX4_toldAt) (maxL := 6) (ret := (some .int)) (by decide) rfl ?_
  intro p e s m args below meth c s₁ Bd hml hv
  obtain ⟨rfl, hK, hB⟩ := hv
  have hx := Bd.exec
  have hb := Bd.bytes
  have hr := Bd.returns
  have hts := atoms_spec (ws := wsX4_toldAt) Bd.pre
  have hown : s.vm.findClass RX4 = some m.cls := findClass_of_methodNamed Bd.named
  have hlocks := Bd.notSynchronized
  have hC : CallFix p m c cX4_toldAt 6 s _ wsX4_toldAt RX4 := ⟨hx, hb, hml, hown, hts⟩
  have hl := lv_entry ([.ref (ad 0), .int law, .int child, .int asking, .int age]) (n := 6) (Nat.le_of_ble_eq_true rfl)
  rw [lg_entry_eq]
  generalize (lg_sl ([.ref (ad 0), .int law, .int child, .int asking, .int age]) ++ List.replicate (6 - (lg_sl ([.ref (ad 0), .int law, .int child, .int asking, .int age])).length) Slot.unset).toArray = ls at hl ⊢
  have hl : lv_has ls 6 [(0, .ref (ad 0)), (1, .int law), (2, .int child), (3, .int asking), (4, .int age)] := hl
  have hW := hB
  obtain ⟨f_o, f_ch, f_as, f_an, f_tp, ⟨qf, f_q, hqf⟩, f_lw, hlc⟩ := hB
  refine lv_aload_n hx hb dX4_toldAt_0 rfl (lv_at hl 0 rfl) ?_
  refine lv_iload_n hx hb dX4_toldAt_1 rfl (lv_at hl 1 rfl) ?_
  refine ro_call (va_runV (As := [.int law]) (rest := []) hC (c_X4_hasLaw l G ad wd law) (cwV 1 hts gX4_toldAt_X4_hasLaw rfl rfl rfl kd_X4_hasLaw ⟨Nat.le_of_ble_eq_true rfl, Nat.le_of_ble_eq_true rfl⟩) (ro_preV hK f_o rfl hW) rfl rfl hl.1 rfl (lv_room (Nat.le_of_ble_eq_true rfl)) dX4_toldAt_2 ⟨Nat.zero_le _, Nat.zero_le _⟩) ?_
  refine bz_ne (tgt := 10) hx hb dX4_toldAt_5 (by decide) (fun h_1 => ?_) (fun h_1 => ?_)
  · refine lv_aload_n hx hb dX4_toldAt_10 rfl (lv_at hl 0 rfl) ?_
    refine r_get (C := RX4) (T := TX4) (N := 6) hx hb hts i_X4_toldAt_X4 hown hK f_o rfl 4 (by decide) k_X4_toldAt_fieldLink_35 rfl rfl dX4_toldAt_11 ?_
    refine lv_iload_n hx hb dX4_toldAt_14 rfl (lv_at hl 1 rfl) ?_
    refine r_qald hx hb hK f_q (hasLaw_in h_1) (hqf _ (vp_lt (hasLaw_in h_1))) dX4_toldAt_15 ?_
    refine lv_aload_n hx hb dX4_toldAt_16 rfl (lv_at hl 0 rfl) ?_
    refine r_get (C := RX4) (T := TX4) (N := 6) hx hb hts i_X4_toldAt_X4 hown hK f_o rfl 1 (by decide) k_X4_toldAt_fieldLink_20 rfl rfl dX4_toldAt_17 ?_
    refine lv_iload_n hx hb dX4_toldAt_20 rfl (lv_at hl 3 rfl) ?_
    refine lv_iload hx hb dX4_toldAt_21 (lv_at hl 4 rfl) ?_
    refine ro_call (va_runV (As := [.ref (ad 3), .int asking, .int age]) (rest := []) hC (c_X1_firstSaid l G (fun j => ad (10 + 5 * law.toNatClampNeg + j)) (wLw wd law.toNatClampNeg) (ad 3) (ad 4) (wAs wd) asking age) (cwV 3 hts gX4_toldAt_X1_firstSaid rfl rfl rfl kd_X1_firstSaid ⟨Nat.le_of_ble_eq_true rfl, Nat.le_of_ble_eq_true rfl⟩) (ro_preV hK (f_lw _ (vp_lt (hasLaw_in h_1))).1 rfl ⟨f_lw _ (vp_lt (hasLaw_in h_1)), f_as⟩) rfl rfl hl.1 rfl (lv_room (Nat.le_of_ble_eq_true rfl)) dX4_toldAt_23 ⟨Nat.zero_le _, Nat.zero_le _⟩) ?_
    refine lv_istore (lv' := [(5, .int (lx_firstSaid (wLw wd law.toNatClampNeg) (wAs wd) asking age)), (0, .ref (ad 0)), (1, .int law), (2, .int child), (3, .int asking), (4, .int age)]) hx hb dX4_toldAt_26 hl (by decide) rfl (fun ls hl => ?_)
    refine lv_iload hx hb dX4_toldAt_28 (lv_at hl 0 rfl) ?_
    refine join_at (nL := 6) 64 [(5, .int (lx_firstSaid (wLw wd law.toNatClampNeg) (wAs wd) asking age)), (0, .ref (ad 0)), (1, .int law), (2, .int child), (3, .int asking), (4, .int age)] [.int (if (lx_firstSaid (wLw wd law.toNatClampNeg) (wAs wd) asking age) < 0 then w_toldByKind wd law.toNatClampNeg (w_keptAt wd law.toNatClampNeg child age) asking age else lx_firstSaid (wLw wd law.toNatClampNeg) (wAs wd) asking age)] (fun ls hl => ?_) (fun J_2 => ?_)
    · exact ro_iret hx hb hr hlocks dX4_toldAt_64 (by (try unfold w_toldAt); (repeat rw [if_pos h_1]); first | done | rfl)
    · refine lv_if_lt (tgt := 38) hx hb dX4_toldAt_30 (by decide) (fun h_3 => ?_) (fun h_3 => ?_)
      · refine lv_aload_n hx hb dX4_toldAt_38 rfl (lv_at hl 1 rfl) ?_
        refine lv_aload_n hx hb dX4_toldAt_39 rfl (lv_at hl 1 rfl) ?_
        refine r_get (C := RX4) (T := TX4) (N := 6) hx hb hts i_X4_toldAt_X4 hown hK f_o rfl 4 (by decide) k_X4_toldAt_fieldLink_35 rfl rfl dX4_toldAt_40 ?_
        refine lv_iload_n hx hb dX4_toldAt_43 rfl (lv_at hl 2 rfl) ?_
        refine r_qald hx hb hK f_q (hasLaw_in h_1) (hqf _ (vp_lt (hasLaw_in h_1))) dX4_toldAt_44 ?_
        refine lv_aload_n hx hb dX4_toldAt_45 rfl (lv_at hl 1 rfl) ?_
        refine lv_aload_n hx hb dX4_toldAt_46 rfl (lv_at hl 1 rfl) ?_
        refine r_get (C := RX4) (T := TX4) (N := 6) hx hb hts i_X4_toldAt_X4 hown hK f_o rfl 4 (by decide) k_X4_toldAt_fieldLink_35 rfl rfl dX4_toldAt_47 ?_
        refine lv_iload_n hx hb dX4_toldAt_50 rfl (lv_at hl 2 rfl) ?_
        refine r_qald hx hb hK f_q (hasLaw_in h_1) (hqf _ (vp_lt (hasLaw_in h_1))) dX4_toldAt_51 ?_
        refine lv_iload_n hx hb dX4_toldAt_52 rfl (lv_at hl 3 rfl) ?_
        refine lv_iload hx hb dX4_toldAt_53 (lv_at hl 5 rfl) ?_
        refine ro_call (va_runV (As := [.ref (ad (10 + 5 * law.toNatClampNeg)), .int child, .int age]) (rest := [.ref (ad (10 + 5 * law.toNatClampNeg)), .ref (ad 0)]) hC (c_X4_keptAt l G ad wd law.toNatClampNeg child age (vp_lt (hasLaw_in h_1))) (cwV 3 hts gX4_toldAt_X4_keptAt rfl rfl rfl kd_X4_keptAt ⟨Nat.le_of_ble_eq_true rfl, Nat.le_of_ble_eq_true rfl⟩) (ro_preV hK f_o rfl hW) rfl rfl hl.1 rfl (lv_room (Nat.le_of_ble_eq_true rfl)) dX4_toldAt_55 ⟨Nat.zero_le _, Nat.zero_le _⟩) ?_
        refine lv_iload_n hx hb dX4_toldAt_58 rfl (lv_at hl 4 rfl) ?_
        refine lv_iload hx hb dX4_toldAt_59 (lv_at hl 5 rfl) ?_
        refine ro_call (va_runV (As := [.ref (ad (10 + 5 * law.toNatClampNeg)), .int (w_keptAt wd law.toNatClampNeg child age), .int asking, .int age]) (rest := []) hC (c_X4_toldByKind l G ad wd law.toNatClampNeg (w_keptAt wd law.toNatClampNeg child age) asking age (vp_lt (hasLaw_in h_1))) (cwV 4 hts gX4_toldAt_X4_toldByKind rfl rfl rfl kd_X4_toldByKind ⟨Nat.le_of_ble_eq_true rfl, Nat.le_of_ble_eq_true rfl⟩) (ro_preV hK f_o rfl hW) rfl rfl hl.1 rfl (lv_room (Nat.le_of_ble_eq_true rfl)) dX4_toldAt_61 ⟨Nat.zero_le _, Nat.zero_le _⟩) ?_
        have hJ := J_2; (repeat rw [if_pos h_3] at hJ)
        first | exact hJ ls (lv_sub hl [0, 1, 2, 3, 4, 5] rfl) | ((repeat rw [if_pos h_3] at hl); (repeat rw [if_pos h_3]); exact hJ ls (lv_sub hl [0, 1, 2, 3, 4, 5] rfl))
      · refine lv_iload hx hb dX4_toldAt_33 (lv_at hl 0 rfl) ?_
        refine lv_goto (tgt := 64) hx hb dX4_toldAt_35 (by decide) ?_
        have hJ := J_2; (repeat rw [if_neg h_3] at hJ)
        first | exact hJ ls (lv_sub hl [0, 1, 2, 3, 4, 5] rfl) | ((repeat rw [if_neg h_3] at hl); (repeat rw [if_neg h_3]); exact hJ ls (lv_sub hl [0, 1, 2, 3, 4, 5] rfl))
  · refine lv_iconst (v := 1) hx hb dX4_toldAt_8 (by decide) ?_
    exact ro_iret hx hb hr hlocks dX4_toldAt_9 (by (try unfold w_toldAt); (repeat rw [if_neg h_1]); first | done | rfl)
theorem i_X4_toldNow_X4 : ∀ w ∈ wsX40, w ∈ wsX4_toldNow := fun _ h => List.mem_cons_of_mem _ (List.mem_append_left _ (List.mem_append_left _ (List.mem_append_right _ h)))
theorem k_X4_toldNow_fieldLink_14 : Cond.fieldLink RX4 14 "SameWater$World" "children" "LSameWater$Rows;" ∈ wsX4_toldNow := by decide +kernel
theorem kd_X4_toldAt : yX4_toldAt.cls = RX4 ∧ yX4_toldAt.cls ≠ "java/lang/invoke/MethodHandle" ∧ yX4_toldAt.cls ≠ "java/lang/invoke/VarHandle" ∧ (parseMethodDescriptor yX4_toldAt.desc).map (fun d => d.parameters.length) = some 4 := by decide +kernel
def w_toldNow (wd : WT) (law : Int32) (child : Int32) (asking : Int32) : Int32 := w_toldAt wd law child asking (f_at 5 (wCh wd) child 0)
set_option maxHeartbeats 4000000 in
set_option maxRecDepth 100000 in
theorem c_X4_toldNow (l : Launch) (G : GG) (ad : Nat → Nat) (wd : WT) (law : Int32) (child : Int32) (asking : Int32)  : Met l yX4_toldNow wsX4_toldNow { frames := 4, cells := 0, slots := 0, locals := 117 } (roP G [.ref (ad 0), .int law, .int child, .int asking] (fun H => WAt G ad wd H)) (roQ (some (.int (w_toldNow wd law child asking)))) 0 0 nF := by
  refine Met.ofW (cc := cX4_toldNow) (maxL := 4) (ret := (some .int)) (by decide) rfl ?_
  intro p e s m args below meth c s₁ Bd hml hv
  obtain ⟨rfl, hK, hB⟩ := hv
  have hx := Bd.exec
  have hb := Bd.bytes
  have hr := Bd.returns
  have hts := atoms_spec (ws := wsX4_toldNow) Bd.pre
  have hown : s.vm.findClass RX4 = some m.cls := findClass_of_methodNamed Bd.named
  have hlocks := Bd.notSynchronized
  have hC : CallFix p m c cX4_toldNow 4 s _ wsX4_toldNow RX4 := ⟨hx, hb, hml, hown, hts⟩
  have hl := lv_entry ([.ref (ad 0), .int law, .int child, .int asking]) (n := 4) (Nat.le_of_ble_eq_true rfl)
  rw [lg_entry_eq]
  generalize (lg_sl ([.ref (ad 0), .int law, .int child, .int asking]) ++ List.replicate (4 - (lg_sl ([.ref (ad 0), .int law, .int child, .int asking])).length) Slot.unset).toArray = ls at hl ⊢
  have hl : lv_has ls 4 [(0, .ref (ad 0)), (1, .int law), (2, .int child), (3, .int asking)] := hl
  have hW := hB
  obtain ⟨f_o, f_ch, f_as, f_an, f_tp, ⟨qf, f_q, hqf⟩, f_lw, hlc⟩ := hB
  refine lv_aload_n hx hb dX4_toldNow_0 rfl (lv_at hl 0 rfl) ?_
  refine lv_iload_n hx hb dX4_toldNow_1 rfl (lv_at hl 1 rfl) ?_
  refine lv_iload_n hx hb dX4_toldNow_2 rfl (lv_at hl 2 rfl) ?_
  refine lv_iload_n hx hb dX4_toldNow_3 rfl (lv_at hl 3 rfl) ?_
  refine lv_aload_n hx hb dX4_toldNow_4 rfl (lv_at hl 0 rfl) ?_
  refine r_get (C := RX4) (T := TX4) (N := 6) hx hb hts i_X4_toldNow_X4 hown hK f_o rfl 0 (by decide) k_X4_toldNow_fieldLink_14 rfl rfl dX4_toldNow_5 ?_
  refine lv_iload_n hx hb dX4_toldNow_8 rfl (lv_at hl 2 rfl) ?_
  refine lv_iconst (v := 0) hx hb dX4_toldNow_9 (by decide) ?_
  refine ro_call (va_runV (As := [.int child, .int 0]) (rest := [.int asking, .int child, .int law, .ref (ad 0)]) hC (c_X2_at l G (ad 1) (ad 2) 8 5 (wCh wd) child 0) (cwV 2 hts gX4_toldNow_X2_at rfl rfl rfl kd_X2_at ⟨Nat.le_of_ble_eq_true rfl, Nat.le_of_ble_eq_true rfl⟩) (ro_preV hK f_ch.1 rfl f_ch) rfl rfl hl.1 rfl (lv_room (Nat.le_of_ble_eq_true rfl)) dX4_toldNow_10 ⟨Nat.zero_le _, Nat.zero_le _⟩) ?_
  refine ro_call (va_runV (As := [.int law, .int child, .int asking, .int (f_at 5 (wCh wd) child 0)]) (rest := []) hC (c_X4_toldAt l G ad wd law child asking (f_at 5 (wCh wd) child 0)) (cwV 4 hts gX4_toldNow_X4_toldAt rfl rfl rfl kd_X4_toldAt ⟨Nat.le_of_ble_eq_true rfl, Nat.le_of_ble_eq_true rfl⟩) (ro_preV hK f_o rfl hW) rfl rfl hl.1 rfl (lv_room (Nat.le_of_ble_eq_true rfl)) dX4_toldNow_13 ⟨Nat.zero_le _, Nat.zero_le _⟩) ?_
  exact ro_iret hx hb hr hlocks dX4_toldNow_16 rfl
theorem i_X4_isAsTold_X4 : ∀ w ∈ wsX40, w ∈ wsX4_isAsTold := fun _ h => List.mem_cons_of_mem _ (List.mem_append_left _ (List.mem_append_left _ (List.mem_append_right _ h)))
theorem k_X4_isAsTold_fieldLink_23 : Cond.fieldLink RX4 23 "SameWater$World" "answers" "LSameWater$Rows;" ∈ wsX4_isAsTold := by decide +kernel
def w_isAsTold (wd : WT) (law : Int32) (answer : Int32) : Bool := (if (w_toldAt wd law (f_at 5 (wAn wd) answer 0) (f_at 5 (wAn wd) answer 1) (f_at 5 (wAn wd) answer 4)) = (f_at 5 (wAn wd) answer 2) then true else false)
set_option maxHeartbeats 4000000 in
set_option maxRecDepth 100000 in
theorem c_X4_isAsTold (l : Launch) (G : GG) (ad : Nat → Nat) (wd : WT) (law : Int32) (answer : Int32)  : Met l yX4_isAsTold wsX4_isAsTold { frames := 4, cells := 0, slots := 0, locals := 117 } (roP G [.ref (ad 0), .int law, .int answer] (fun H => WAt G ad wd H)) (roQ (some (.int (b2i (w_isAsTold wd law answer))))) 0 0 nF := by
  refine Met.ofW (cc := cX4_isAsTold) (maxL := 4) (ret := (some .boolean)) (by decide) rfl ?_
  intro p e s m args below meth c s₁ Bd hml hv
  obtain ⟨rfl, hK, hB⟩ := hv
  have hx := Bd.exec
  have hb := Bd.bytes
  have hr := Bd.returns
  have hts := atoms_spec (ws := wsX4_isAsTold) Bd.pre
  have hown : s.vm.findClass RX4 = some m.cls := findClass_of_methodNamed Bd.named
  have hlocks := Bd.notSynchronized
  have hC : CallFix p m c cX4_isAsTold 4 s _ wsX4_isAsTold RX4 := ⟨hx, hb, hml, hown, hts⟩
  have hl := lv_entry ([.ref (ad 0), .int law, .int answer]) (n := 4) (Nat.le_of_ble_eq_true rfl)
  rw [lg_entry_eq]
  generalize (lg_sl ([.ref (ad 0), .int law, .int answer]) ++ List.replicate (4 - (lg_sl ([.ref (ad 0), .int law, .int answer])).length) Slot.unset).toArray = ls at hl ⊢
  have hl : lv_has ls 4 [(0, .ref (ad 0)), (1, .int law), (2, .int answer)] := hl
  have hW := hB
  obtain ⟨f_o, f_ch, f_as, f_an, f_tp, ⟨qf, f_q, hqf⟩, f_lw, hlc⟩ := hB
  refine lv_aload_n hx hb dX4_isAsTold_0 rfl (lv_at hl 0 rfl) ?_
  refine lv_iload_n hx hb dX4_isAsTold_1 rfl (lv_at hl 1 rfl) ?_
  refine lv_aload_n hx hb dX4_isAsTold_2 rfl (lv_at hl 0 rfl) ?_
  refine r_get (C := RX4) (T := TX4) (N := 6) hx hb hts i_X4_isAsTold_X4 hown hK f_o rfl 2 (by decide) k_X4_isAsTold_fieldLink_23 rfl rfl dX4_isAsTold_3 ?_
  refine lv_iload_n hx hb dX4_isAsTold_6 rfl (lv_at hl 2 rfl) ?_
  refine lv_iconst (v := 0) hx hb dX4_isAsTold_7 (by decide) ?_
  refine ro_call (va_runV (As := [.int answer, .int 0]) (rest := [.int law, .ref (ad 0)]) hC (c_X2_at l G (ad 5) (ad 6) 40 5 (wAn wd) answer 0) (cwV 2 hts gX4_isAsTold_X2_at rfl rfl rfl kd_X2_at ⟨Nat.le_of_ble_eq_true rfl, Nat.le_of_ble_eq_true rfl⟩) (ro_preV hK f_an.1 rfl f_an) rfl rfl hl.1 rfl (lv_room (Nat.le_of_ble_eq_true rfl)) dX4_isAsTold_8 ⟨Nat.zero_le _, Nat.zero_le _⟩) ?_
  refine lv_aload_n hx hb dX4_isAsTold_11 rfl (lv_at hl 0 rfl) ?_
  refine r_get (C := RX4) (T := TX4) (N := 6) hx hb hts i_X4_isAsTold_X4 hown hK f_o rfl 2 (by decide) k_X4_isAsTold_fieldLink_23 rfl rfl dX4_isAsTold_12 ?_
  refine lv_iload_n hx hb dX4_isAsTold_15 rfl (lv_at hl 2 rfl) ?_
  refine lv_iconst (v := 1) hx hb dX4_isAsTold_16 (by decide) ?_
  refine ro_call (va_runV (As := [.int answer, .int 1]) (rest := [.int (f_at 5 (wAn wd) answer 0), .int law, .ref (ad 0)]) hC (c_X2_at l G (ad 5) (ad 6) 40 5 (wAn wd) answer 1) (cwV 2 hts gX4_isAsTold_X2_at rfl rfl rfl kd_X2_at ⟨Nat.le_of_ble_eq_true rfl, Nat.le_of_ble_eq_true rfl⟩) (ro_preV hK f_an.1 rfl f_an) rfl rfl hl.1 rfl (lv_room (Nat.le_of_ble_eq_true rfl)) dX4_isAsTold_17 ⟨Nat.zero_le _, Nat.zero_le _⟩) ?_
  refine lv_aload_n hx hb dX4_isAsTold_20 rfl (lv_at hl 0 rfl) ?_
  refine r_get (C := RX4) (T := TX4) (N := 6) hx hb hts i_X4_isAsTold_X4 hown hK f_o rfl 2 (by decide) k_X4_isAsTold_fieldLink_23 rfl rfl dX4_isAsTold_21 ?_
  refine lv_iload_n hx hb dX4_isAsTold_24 rfl (lv_at hl 2 rfl) ?_
  refine lv_iconst (v := 4) hx hb dX4_isAsTold_25 (by decide) ?_
  refine ro_call (va_runV (As := [.int answer, .int 4]) (rest := [.int (f_at 5 (wAn wd) answer 1), .int (f_at 5 (wAn wd) answer 0), .int law, .ref (ad 0)]) hC (c_X2_at l G (ad 5) (ad 6) 40 5 (wAn wd) answer 4) (cwV 2 hts gX4_isAsTold_X2_at rfl rfl rfl kd_X2_at ⟨Nat.le_of_ble_eq_true rfl, Nat.le_of_ble_eq_true rfl⟩) (ro_preV hK f_an.1 rfl f_an) rfl rfl hl.1 rfl (lv_room (Nat.le_of_ble_eq_true rfl)) dX4_isAsTold_26 ⟨Nat.zero_le _, Nat.zero_le _⟩) ?_
  refine ro_call (va_runV (As := [.int law, .int (f_at 5 (wAn wd) answer 0), .int (f_at 5 (wAn wd) answer 1), .int (f_at 5 (wAn wd) answer 4)]) (rest := []) hC (c_X4_toldAt l G ad wd law (f_at 5 (wAn wd) answer 0) (f_at 5 (wAn wd) answer 1) (f_at 5 (wAn wd) answer 4)) (cwV 4 hts gX4_isAsTold_X4_toldAt rfl rfl rfl kd_X4_toldAt ⟨Nat.le_of_ble_eq_true rfl, Nat.le_of_ble_eq_true rfl⟩) (ro_preV hK f_o rfl hW) rfl rfl hl.1 rfl (lv_room (Nat.le_of_ble_eq_true rfl)) dX4_isAsTold_29 ⟨Nat.zero_le _, Nat.zero_le _⟩) ?_
  refine lv_istore_n (lv' := [(3, .int (w_toldAt wd law (f_at 5 (wAn wd) answer 0) (f_at 5 (wAn wd) answer 1) (f_at 5 (wAn wd) answer 4))), (0, .ref (ad 0)), (1, .int law), (2, .int answer)]) hx hb dX4_isAsTold_32 rfl hl (by decide) rfl (fun ls hl => ?_)
  refine lv_iload_n hx hb dX4_isAsTold_33 rfl (lv_at hl 0 rfl) ?_
  refine lv_aload_n hx hb dX4_isAsTold_34 rfl (lv_at hl 1 rfl) ?_
  refine r_get (C := RX4) (T := TX4) (N := 6) hx hb hts i_X4_isAsTold_X4 hown hK f_o rfl 2 (by decide) k_X4_isAsTold_fieldLink_23 rfl rfl dX4_isAsTold_35 ?_
  refine lv_iload_n hx hb dX4_isAsTold_38 rfl (lv_at hl 3 rfl) ?_
  refine lv_iconst (v := 2) hx hb dX4_isAsTold_39 (by decide) ?_
  refine ro_call (va_runV (As := [.int answer, .int 2]) (rest := [.int (w_toldAt wd law (f_at 5 (wAn wd) answer 0) (f_at 5 (wAn wd) answer 1) (f_at 5 (wAn wd) answer 4))]) hC (c_X2_at l G (ad 5) (ad 6) 40 5 (wAn wd) answer 2) (cwV 2 hts gX4_isAsTold_X2_at rfl rfl rfl kd_X2_at ⟨Nat.le_of_ble_eq_true rfl, Nat.le_of_ble_eq_true rfl⟩) (ro_preV hK f_an.1 rfl f_an) rfl rfl hl.1 rfl (lv_room (Nat.le_of_ble_eq_true rfl)) dX4_isAsTold_40 ⟨Nat.zero_le _, Nat.zero_le _⟩) ?_
  refine join_at (nL := 4) 51 [(3, .int (w_toldAt wd law (f_at 5 (wAn wd) answer 0) (f_at 5 (wAn wd) answer 1) (f_at 5 (wAn wd) answer 4))), (0, .ref (ad 0)), (1, .int law), (2, .int answer)] [.int (b2i (if (w_toldAt wd law (f_at 5 (wAn wd) answer 0) (f_at 5 (wAn wd) answer 1) (f_at 5 (wAn wd) answer 4)) = (f_at 5 (wAn wd) answer 2) then true else false))] (fun ls hl => ?_) (fun J_1 => ?_)
  · exact ro_zret hx hb hr hlocks dX4_isAsTold_51 rfl
  · refine lv_icmp_ne (tgt := 50) hx hb dX4_isAsTold_43 (by decide) (fun h_2 => ?_) (fun h_2 => ?_)
    · refine lv_iconst (v := 0) hx hb dX4_isAsTold_50 (by decide) ?_
      have hJ := J_1; (repeat rw [if_neg h_2] at hJ)
      first | exact hJ ls (lv_sub hl [0, 1, 2, 3] rfl) | ((repeat rw [if_neg h_2] at hl); (repeat rw [if_neg h_2]); exact hJ ls (lv_sub hl [0, 1, 2, 3] rfl))
    · refine lv_iconst (v := 1) hx hb dX4_isAsTold_46 (by decide) ?_
      refine lv_goto (tgt := 51) hx hb dX4_isAsTold_47 (by decide) ?_
      have hJ := J_1; (repeat rw [if_pos h_2] at hJ)
      first | exact hJ ls (lv_sub hl [0, 1, 2, 3] rfl) | ((repeat rw [if_pos h_2] at hl); (repeat rw [if_pos h_2]); exact hJ ls (lv_sub hl [0, 1, 2, 3] rfl))
theorem i_X4_chanceOf200_X4 : ∀ w ∈ wsX40, w ∈ wsX4_chanceOf200 := fun _ h => List.mem_cons_of_mem _ (List.mem_append_left _ (List.mem_append_left _ (List.mem_append_right _ h)))
theorem k_X4_chanceOf200_fieldLink_35 : Cond.fieldLink RX4 35 "SameWater$World" "laws" "[LSameWater$Law;" ∈ wsX4_chanceOf200 := by decide +kernel
theorem i_X4_chanceOf200_X1 : ∀ w ∈ wsX10, w ∈ wsX4_chanceOf200 := fun _ h => List.mem_cons_of_mem _ (List.mem_append_left _ (List.mem_append_right _ h))
theorem k_X4_chanceOf200_fieldLink_117 : Cond.fieldLink RX4 117 "SameWater$Law" "slip" "I" ∈ wsX4_chanceOf200 := by decide +kernel
theorem kd_X4_isAsTold : yX4_isAsTold.cls = RX4 ∧ yX4_isAsTold.cls ≠ "java/lang/invoke/MethodHandle" ∧ yX4_isAsTold.cls ≠ "java/lang/invoke/VarHandle" ∧ (parseMethodDescriptor yX4_isAsTold.desc).map (fun d => d.parameters.length) = some 2 := by decide +kernel
def w_chanceOf200 (wd : WT) (law : Int32) (answer : Int32) : Int32 := if (w_hasLaw wd law) = true then if (w_isAsTold wd law answer) = true then 200 - (2 * (lSlip (wLw wd law.toNatClampNeg))) else lSlip (wLw wd law.toNatClampNeg) else 0
set_option maxHeartbeats 4000000 in
set_option maxRecDepth 100000 in
theorem c_X4_chanceOf200 (l : Launch) (G : GG) (ad : Nat → Nat) (wd : WT) (law : Int32) (answer : Int32)  : Met l yX4_chanceOf200 wsX4_chanceOf200 { frames := 5, cells := 0, slots := 0, locals := 140 } (roP G [.ref (ad 0), .int law, .int answer] (fun H => WAt G ad wd H)) (roQ (some (.int (w_chanceOf200 wd law answer)))) 0 0 nF := by
  refine Met.ofW (cc := cX4_chanceOf200) (maxL := 4) (ret := (some .int)) (by decide) rfl ?_
  intro p e s m args below meth c s₁ Bd hml hv
  obtain ⟨rfl, hK, hB⟩ := hv
  have hx := Bd.exec
  have hb := Bd.bytes
  have hr := Bd.returns
  have hts := atoms_spec (ws := wsX4_chanceOf200) Bd.pre
  have hown : s.vm.findClass RX4 = some m.cls := findClass_of_methodNamed Bd.named
  have hlocks := Bd.notSynchronized
  have hC : CallFix p m c cX4_chanceOf200 4 s _ wsX4_chanceOf200 RX4 := ⟨hx, hb, hml, hown, hts⟩
  have hl := lv_entry ([.ref (ad 0), .int law, .int answer]) (n := 4) (Nat.le_of_ble_eq_true rfl)
  rw [lg_entry_eq]
  generalize (lg_sl ([.ref (ad 0), .int law, .int answer]) ++ List.replicate (4 - (lg_sl ([.ref (ad 0), .int law, .int answer])).length) Slot.unset).toArray = ls at hl ⊢
  have hl : lv_has ls 4 [(0, .ref (ad 0)), (1, .int law), (2, .int answer)] := hl
  have hW := hB
  obtain ⟨f_o, f_ch, f_as, f_an, f_tp, ⟨qf, f_q, hqf⟩, f_lw, hlc⟩ := hB
  refine lv_aload_n hx hb dX4_chanceOf200_0 rfl (lv_at hl 0 rfl) ?_
  refine lv_iload_n hx hb dX4_chanceOf200_1 rfl (lv_at hl 1 rfl) ?_
  refine ro_call (va_runV (As := [.int law]) (rest := []) hC (c_X4_hasLaw l G ad wd law) (cwV 1 hts gX4_chanceOf200_X4_hasLaw rfl rfl rfl kd_X4_hasLaw ⟨Nat.le_of_ble_eq_true rfl, Nat.le_of_ble_eq_true rfl⟩) (ro_preV hK f_o rfl hW) rfl rfl hl.1 rfl (lv_room (Nat.le_of_ble_eq_true rfl)) dX4_chanceOf200_2 ⟨Nat.zero_le _, Nat.zero_le _⟩) ?_
  refine bz_ne (tgt := 10) hx hb dX4_chanceOf200_5 (by decide) (fun h_1 => ?_) (fun h_1 => ?_)
  · refine lv_aload_n hx hb dX4_chanceOf200_10 rfl (lv_at hl 0 rfl) ?_
    refine r_get (C := RX4) (T := TX4) (N := 6) hx hb hts i_X4_chanceOf200_X4 hown hK f_o rfl 4 (by decide) k_X4_chanceOf200_fieldLink_35 rfl rfl dX4_chanceOf200_11 ?_
    refine lv_iload_n hx hb dX4_chanceOf200_14 rfl (lv_at hl 1 rfl) ?_
    refine r_qald hx hb hK f_q (hasLaw_in h_1) (hqf _ (vp_lt (hasLaw_in h_1))) dX4_chanceOf200_15 ?_
    refine r_get (C := RX1) (T := TX1) (N := 8) hx hb hts i_X4_chanceOf200_X1 hown hK (f_lw _ (vp_lt (hasLaw_in h_1))).1 rfl 3 (by decide) k_X4_chanceOf200_fieldLink_117 rfl rfl dX4_chanceOf200_16 ?_
    refine lv_istore_n (lv' := [(3, .int (lSlip (wLw wd law.toNatClampNeg))), (0, .ref (ad 0)), (1, .int law), (2, .int answer)]) hx hb dX4_chanceOf200_19 rfl hl (by decide) rfl (fun ls hl => ?_)
    refine lv_aload_n hx hb dX4_chanceOf200_20 rfl (lv_at hl 1 rfl) ?_
    refine lv_iload_n hx hb dX4_chanceOf200_21 rfl (lv_at hl 2 rfl) ?_
    refine lv_iload_n hx hb dX4_chanceOf200_22 rfl (lv_at hl 3 rfl) ?_
    refine ro_call (va_runV (As := [.int law, .int answer]) (rest := []) hC (c_X4_isAsTold l G ad wd law answer) (cwV 2 hts gX4_chanceOf200_X4_isAsTold rfl rfl rfl kd_X4_isAsTold ⟨Nat.le_of_ble_eq_true rfl, Nat.le_of_ble_eq_true rfl⟩) (ro_preV hK f_o rfl hW) rfl rfl hl.1 rfl (lv_room (Nat.le_of_ble_eq_true rfl)) dX4_chanceOf200_23 ⟨Nat.zero_le _, Nat.zero_le _⟩) ?_
    refine join_at (nL := 4) 40 [(3, .int (lSlip (wLw wd law.toNatClampNeg))), (0, .ref (ad 0)), (1, .int law), (2, .int answer)] [.int (if (w_isAsTold wd law answer) = true then 200 - (2 * (lSlip (wLw wd law.toNatClampNeg))) else lSlip (wLw wd law.toNatClampNeg))] (fun ls hl => ?_) (fun J_2 => ?_)
    · exact ro_iret hx hb hr hlocks dX4_chanceOf200_40 (by (try unfold w_chanceOf200); (repeat rw [if_pos h_1]); first | done | rfl)
    · refine bz_eq (tgt := 39) hx hb dX4_chanceOf200_26 (by decide) (fun h_3 => ?_) (fun h_3 => ?_)
      · refine lv_iload_n hx hb dX4_chanceOf200_39 rfl (lv_at hl 0 rfl) ?_
        have hJ := J_2; (repeat rw [if_neg h_3] at hJ)
        first | exact hJ ls (lv_sub hl [0, 1, 2, 3] rfl) | ((repeat rw [if_neg h_3] at hl); (repeat rw [if_neg h_3]); exact hJ ls (lv_sub hl [0, 1, 2, 3] rfl))
      · refine lv_sipush (v := 200) hx hb dX4_chanceOf200_29 (by decide +kernel) ?_
        refine lv_iconst (v := 2) hx hb dX4_chanceOf200_32 (by decide) ?_
        refine lv_iload_n hx hb dX4_chanceOf200_33 rfl (lv_at hl 0 rfl) ?_
        refine lv_imul hx hb dX4_chanceOf200_34 ?_
        refine lv_isub hx hb dX4_chanceOf200_35 ?_
        refine lv_goto (tgt := 40) hx hb dX4_chanceOf200_36 (by decide) ?_
        have hJ := J_2; (repeat rw [if_pos h_3] at hJ)
        first | exact hJ ls (lv_sub hl [0, 1, 2, 3] rfl) | ((repeat rw [if_pos h_3] at hl); (repeat rw [if_pos h_3]); exact hJ ls (lv_sub hl [0, 1, 2, 3] rfl))
  · refine lv_iconst (v := 0) hx hb dX4_chanceOf200_8 (by decide) ?_
    exact ro_iret hx hb hr hlocks dX4_chanceOf200_9 (by (try unfold w_chanceOf200); (repeat rw [if_neg h_1]); first | done | rfl)
theorem k_J6_bitCount_0f7a4_constant_265 : Cond.constant RJ6 265 (1431655765) ∈ wsJ6_bitCount_0f7a4 := by decide +kernel
theorem k_J6_bitCount_0f7a4_constant_266 : Cond.constant RJ6 266 (858993459) ∈ wsJ6_bitCount_0f7a4 := by decide +kernel
theorem k_J6_bitCount_0f7a4_constant_267 : Cond.constant RJ6 267 (252645135) ∈ wsJ6_bitCount_0f7a4 := by decide +kernel
def f_bitCount (i0 : Int32) : Int32 := (((((((i0 - (((i0.toUInt32 >>> ((1 : Int32).toUInt32 &&& Int32.toUInt32 31)).toInt32) &&& 1431655765)) &&& 858993459) + ((((i0 - (((i0.toUInt32 >>> ((1 : Int32).toUInt32 &&& Int32.toUInt32 31)).toInt32) &&& 1431655765)).toUInt32 >>> ((2 : Int32).toUInt32 &&& Int32.toUInt32 31)).toInt32) &&& 858993459)) + (((((i0 - (((i0.toUInt32 >>> ((1 : Int32).toUInt32 &&& Int32.toUInt32 31)).toInt32) &&& 1431655765)) &&& 858993459) + ((((i0 - (((i0.toUInt32 >>> ((1 : Int32).toUInt32 &&& Int32.toUInt32 31)).toInt32) &&& 1431655765)).toUInt32 >>> ((2 : Int32).toUInt32 &&& Int32.toUInt32 31)).toInt32) &&& 858993459)).toUInt32 >>> ((4 : Int32).toUInt32 &&& Int32.toUInt32 31)).toInt32)) &&& 252645135) + (((((((i0 - (((i0.toUInt32 >>> ((1 : Int32).toUInt32 &&& Int32.toUInt32 31)).toInt32) &&& 1431655765)) &&& 858993459) + ((((i0 - (((i0.toUInt32 >>> ((1 : Int32).toUInt32 &&& Int32.toUInt32 31)).toInt32) &&& 1431655765)).toUInt32 >>> ((2 : Int32).toUInt32 &&& Int32.toUInt32 31)).toInt32) &&& 858993459)) + (((((i0 - (((i0.toUInt32 >>> ((1 : Int32).toUInt32 &&& Int32.toUInt32 31)).toInt32) &&& 1431655765)) &&& 858993459) + ((((i0 - (((i0.toUInt32 >>> ((1 : Int32).toUInt32 &&& Int32.toUInt32 31)).toInt32) &&& 1431655765)).toUInt32 >>> ((2 : Int32).toUInt32 &&& Int32.toUInt32 31)).toInt32) &&& 858993459)).toUInt32 >>> ((4 : Int32).toUInt32 &&& Int32.toUInt32 31)).toInt32)) &&& 252645135).toUInt32 >>> ((8 : Int32).toUInt32 &&& Int32.toUInt32 31)).toInt32)) + ((((((((i0 - (((i0.toUInt32 >>> ((1 : Int32).toUInt32 &&& Int32.toUInt32 31)).toInt32) &&& 1431655765)) &&& 858993459) + ((((i0 - (((i0.toUInt32 >>> ((1 : Int32).toUInt32 &&& Int32.toUInt32 31)).toInt32) &&& 1431655765)).toUInt32 >>> ((2 : Int32).toUInt32 &&& Int32.toUInt32 31)).toInt32) &&& 858993459)) + (((((i0 - (((i0.toUInt32 >>> ((1 : Int32).toUInt32 &&& Int32.toUInt32 31)).toInt32) &&& 1431655765)) &&& 858993459) + ((((i0 - (((i0.toUInt32 >>> ((1 : Int32).toUInt32 &&& Int32.toUInt32 31)).toInt32) &&& 1431655765)).toUInt32 >>> ((2 : Int32).toUInt32 &&& Int32.toUInt32 31)).toInt32) &&& 858993459)).toUInt32 >>> ((4 : Int32).toUInt32 &&& Int32.toUInt32 31)).toInt32)) &&& 252645135) + (((((((i0 - (((i0.toUInt32 >>> ((1 : Int32).toUInt32 &&& Int32.toUInt32 31)).toInt32) &&& 1431655765)) &&& 858993459) + ((((i0 - (((i0.toUInt32 >>> ((1 : Int32).toUInt32 &&& Int32.toUInt32 31)).toInt32) &&& 1431655765)).toUInt32 >>> ((2 : Int32).toUInt32 &&& Int32.toUInt32 31)).toInt32) &&& 858993459)) + (((((i0 - (((i0.toUInt32 >>> ((1 : Int32).toUInt32 &&& Int32.toUInt32 31)).toInt32) &&& 1431655765)) &&& 858993459) + ((((i0 - (((i0.toUInt32 >>> ((1 : Int32).toUInt32 &&& Int32.toUInt32 31)).toInt32) &&& 1431655765)).toUInt32 >>> ((2 : Int32).toUInt32 &&& Int32.toUInt32 31)).toInt32) &&& 858993459)).toUInt32 >>> ((4 : Int32).toUInt32 &&& Int32.toUInt32 31)).toInt32)) &&& 252645135).toUInt32 >>> ((8 : Int32).toUInt32 &&& Int32.toUInt32 31)).toInt32)).toUInt32 >>> ((16 : Int32).toUInt32 &&& Int32.toUInt32 31)).toInt32)) &&& 63
set_option maxHeartbeats 4000000 in
set_option maxRecDepth 100000 in
theorem c_J6_bitCount_0f7a4 (l : Launch) (G : GG) (i0 : Int32)  : Met l yJ6_bitCount_0f7a4 wsJ6_bitCount_0f7a4 { frames := 0, cells := 0, slots := 0, locals := 0 } (roP G [.int i0] (fun H => True)) (roQ (some (.int (f_bitCount i0)))) 0 0 nF := by
  refine Met.ofW (cc := cJ6_bitCount_0f7a4) (maxL := 1) (ret := (some .int)) (by decide) rfl ?_
  intro p e s m args below meth c s₁ Bd hml hv
  obtain ⟨rfl, hK, hB⟩ := hv
  have hx := Bd.exec
  have hb := Bd.bytes
  have hr := Bd.returns
  have hts := atoms_spec (ws := wsJ6_bitCount_0f7a4) Bd.pre
  have hown : s.vm.findClass RJ6 = some m.cls := findClass_of_methodNamed Bd.named
  have hlocks := Bd.notSynchronized
  have hC : CallFix p m c cJ6_bitCount_0f7a4 1 s _ wsJ6_bitCount_0f7a4 RJ6 := ⟨hx, hb, hml, hown, hts⟩
  have hl := lv_entry ([.int i0]) (n := 1) (Nat.le_of_ble_eq_true rfl)
  rw [lg_entry_eq]
  generalize (lg_sl ([.int i0]) ++ List.replicate (1 - (lg_sl ([.int i0])).length) Slot.unset).toArray = ls at hl ⊢
  have hl : lv_has ls 1 [(0, .int i0)] := hl
  refine lv_iload_n hx hb dJ6_bitCount_0f7a4_0 rfl (lv_at hl 0 rfl) ?_
  refine lv_iload_n hx hb dJ6_bitCount_0f7a4_1 rfl (lv_at hl 0 rfl) ?_
  refine lv_iconst (v := 1) hx hb dJ6_bitCount_0f7a4_2 (by decide) ?_
  refine lv_iushr (v := (i0.toUInt32 >>> ((1 : Int32).toUInt32 &&& Int32.toUInt32 31)).toInt32) hx hb dJ6_bitCount_0f7a4_3 rfl ?_
  refine lv_ldcw (v := 1431655765) hx hb hown (hts _ k_J6_bitCount_0f7a4_constant_265) dJ6_bitCount_0f7a4_4 ?_
  refine lv_iand hx hb dJ6_bitCount_0f7a4_7 ?_
  refine lv_isub hx hb dJ6_bitCount_0f7a4_8 ?_
  refine lv_istore_n (lv' := [(0, .int (i0 - (((i0.toUInt32 >>> ((1 : Int32).toUInt32 &&& Int32.toUInt32 31)).toInt32) &&& 1431655765)))]) hx hb dJ6_bitCount_0f7a4_9 rfl hl (by decide) rfl (fun ls hl => ?_)
  refine lv_iload_n hx hb dJ6_bitCount_0f7a4_10 rfl (lv_at hl 0 rfl) ?_
  refine lv_ldcw (v := 858993459) hx hb hown (hts _ k_J6_bitCount_0f7a4_constant_266) dJ6_bitCount_0f7a4_11 ?_
  refine lv_iand hx hb dJ6_bitCount_0f7a4_14 ?_
  refine lv_iload_n hx hb dJ6_bitCount_0f7a4_15 rfl (lv_at hl 0 rfl) ?_
  refine lv_iconst (v := 2) hx hb dJ6_bitCount_0f7a4_16 (by decide) ?_
  refine lv_iushr (v := ((i0 - (((i0.toUInt32 >>> ((1 : Int32).toUInt32 &&& Int32.toUInt32 31)).toInt32) &&& 1431655765)).toUInt32 >>> ((2 : Int32).toUInt32 &&& Int32.toUInt32 31)).toInt32) hx hb dJ6_bitCount_0f7a4_17 rfl ?_
  refine lv_ldcw (v := 858993459) hx hb hown (hts _ k_J6_bitCount_0f7a4_constant_266) dJ6_bitCount_0f7a4_18 ?_
  refine lv_iand hx hb dJ6_bitCount_0f7a4_21 ?_
  refine lv_iadd hx hb dJ6_bitCount_0f7a4_22 ?_
  refine lv_istore_n (lv' := [(0, .int (((i0 - (((i0.toUInt32 >>> ((1 : Int32).toUInt32 &&& Int32.toUInt32 31)).toInt32) &&& 1431655765)) &&& 858993459) + ((((i0 - (((i0.toUInt32 >>> ((1 : Int32).toUInt32 &&& Int32.toUInt32 31)).toInt32) &&& 1431655765)).toUInt32 >>> ((2 : Int32).toUInt32 &&& Int32.toUInt32 31)).toInt32) &&& 858993459)))]) hx hb dJ6_bitCount_0f7a4_23 rfl hl (by decide) rfl (fun ls hl => ?_)
  refine lv_iload_n hx hb dJ6_bitCount_0f7a4_24 rfl (lv_at hl 0 rfl) ?_
  refine lv_iload_n hx hb dJ6_bitCount_0f7a4_25 rfl (lv_at hl 0 rfl) ?_
  refine lv_iconst (v := 4) hx hb dJ6_bitCount_0f7a4_26 (by decide) ?_
  refine lv_iushr (v := ((((i0 - (((i0.toUInt32 >>> ((1 : Int32).toUInt32 &&& Int32.toUInt32 31)).toInt32) &&& 1431655765)) &&& 858993459) + ((((i0 - (((i0.toUInt32 >>> ((1 : Int32).toUInt32 &&& Int32.toUInt32 31)).toInt32) &&& 1431655765)).toUInt32 >>> ((2 : Int32).toUInt32 &&& Int32.toUInt32 31)).toInt32) &&& 858993459)).toUInt32 >>> ((4 : Int32).toUInt32 &&& Int32.toUInt32 31)).toInt32) hx hb dJ6_bitCount_0f7a4_27 rfl ?_
  refine lv_iadd hx hb dJ6_bitCount_0f7a4_28 ?_
  refine lv_ldcw (v := 252645135) hx hb hown (hts _ k_J6_bitCount_0f7a4_constant_267) dJ6_bitCount_0f7a4_29 ?_
  refine lv_iand hx hb dJ6_bitCount_0f7a4_32 ?_
  refine lv_istore_n (lv' := [(0, .int (((((i0 - (((i0.toUInt32 >>> ((1 : Int32).toUInt32 &&& Int32.toUInt32 31)).toInt32) &&& 1431655765)) &&& 858993459) + ((((i0 - (((i0.toUInt32 >>> ((1 : Int32).toUInt32 &&& Int32.toUInt32 31)).toInt32) &&& 1431655765)).toUInt32 >>> ((2 : Int32).toUInt32 &&& Int32.toUInt32 31)).toInt32) &&& 858993459)) + (((((i0 - (((i0.toUInt32 >>> ((1 : Int32).toUInt32 &&& Int32.toUInt32 31)).toInt32) &&& 1431655765)) &&& 858993459) + ((((i0 - (((i0.toUInt32 >>> ((1 : Int32).toUInt32 &&& Int32.toUInt32 31)).toInt32) &&& 1431655765)).toUInt32 >>> ((2 : Int32).toUInt32 &&& Int32.toUInt32 31)).toInt32) &&& 858993459)).toUInt32 >>> ((4 : Int32).toUInt32 &&& Int32.toUInt32 31)).toInt32)) &&& 252645135))]) hx hb dJ6_bitCount_0f7a4_33 rfl hl (by decide) rfl (fun ls hl => ?_)
  refine lv_iload_n hx hb dJ6_bitCount_0f7a4_34 rfl (lv_at hl 0 rfl) ?_
  refine lv_iload_n hx hb dJ6_bitCount_0f7a4_35 rfl (lv_at hl 0 rfl) ?_
  refine lv_bipush (v := 8) hx hb dJ6_bitCount_0f7a4_36 (by decide +kernel) ?_
  refine lv_iushr (v := ((((((i0 - (((i0.toUInt32 >>> ((1 : Int32).toUInt32 &&& Int32.toUInt32 31)).toInt32) &&& 1431655765)) &&& 858993459) + ((((i0 - (((i0.toUInt32 >>> ((1 : Int32).toUInt32 &&& Int32.toUInt32 31)).toInt32) &&& 1431655765)).toUInt32 >>> ((2 : Int32).toUInt32 &&& Int32.toUInt32 31)).toInt32) &&& 858993459)) + (((((i0 - (((i0.toUInt32 >>> ((1 : Int32).toUInt32 &&& Int32.toUInt32 31)).toInt32) &&& 1431655765)) &&& 858993459) + ((((i0 - (((i0.toUInt32 >>> ((1 : Int32).toUInt32 &&& Int32.toUInt32 31)).toInt32) &&& 1431655765)).toUInt32 >>> ((2 : Int32).toUInt32 &&& Int32.toUInt32 31)).toInt32) &&& 858993459)).toUInt32 >>> ((4 : Int32).toUInt32 &&& Int32.toUInt32 31)).toInt32)) &&& 252645135).toUInt32 >>> ((8 : Int32).toUInt32 &&& Int32.toUInt32 31)).toInt32) hx hb dJ6_bitCount_0f7a4_38 rfl ?_
  refine lv_iadd hx hb dJ6_bitCount_0f7a4_39 ?_
  refine lv_istore_n (lv' := [(0, .int ((((((i0 - (((i0.toUInt32 >>> ((1 : Int32).toUInt32 &&& Int32.toUInt32 31)).toInt32) &&& 1431655765)) &&& 858993459) + ((((i0 - (((i0.toUInt32 >>> ((1 : Int32).toUInt32 &&& Int32.toUInt32 31)).toInt32) &&& 1431655765)).toUInt32 >>> ((2 : Int32).toUInt32 &&& Int32.toUInt32 31)).toInt32) &&& 858993459)) + (((((i0 - (((i0.toUInt32 >>> ((1 : Int32).toUInt32 &&& Int32.toUInt32 31)).toInt32) &&& 1431655765)) &&& 858993459) + ((((i0 - (((i0.toUInt32 >>> ((1 : Int32).toUInt32 &&& Int32.toUInt32 31)).toInt32) &&& 1431655765)).toUInt32 >>> ((2 : Int32).toUInt32 &&& Int32.toUInt32 31)).toInt32) &&& 858993459)).toUInt32 >>> ((4 : Int32).toUInt32 &&& Int32.toUInt32 31)).toInt32)) &&& 252645135) + (((((((i0 - (((i0.toUInt32 >>> ((1 : Int32).toUInt32 &&& Int32.toUInt32 31)).toInt32) &&& 1431655765)) &&& 858993459) + ((((i0 - (((i0.toUInt32 >>> ((1 : Int32).toUInt32 &&& Int32.toUInt32 31)).toInt32) &&& 1431655765)).toUInt32 >>> ((2 : Int32).toUInt32 &&& Int32.toUInt32 31)).toInt32) &&& 858993459)) + (((((i0 - (((i0.toUInt32 >>> ((1 : Int32).toUInt32 &&& Int32.toUInt32 31)).toInt32) &&& 1431655765)) &&& 858993459) + ((((i0 - (((i0.toUInt32 >>> ((1 : Int32).toUInt32 &&& Int32.toUInt32 31)).toInt32) &&& 1431655765)).toUInt32 >>> ((2 : Int32).toUInt32 &&& Int32.toUInt32 31)).toInt32) &&& 858993459)).toUInt32 >>> ((4 : Int32).toUInt32 &&& Int32.toUInt32 31)).toInt32)) &&& 252645135).toUInt32 >>> ((8 : Int32).toUInt32 &&& Int32.toUInt32 31)).toInt32)))]) hx hb dJ6_bitCount_0f7a4_40 rfl hl (by decide) rfl (fun ls hl => ?_)
  refine lv_iload_n hx hb dJ6_bitCount_0f7a4_41 rfl (lv_at hl 0 rfl) ?_
  refine lv_iload_n hx hb dJ6_bitCount_0f7a4_42 rfl (lv_at hl 0 rfl) ?_
  refine lv_bipush (v := 16) hx hb dJ6_bitCount_0f7a4_43 (by decide +kernel) ?_
  refine lv_iushr (v := (((((((i0 - (((i0.toUInt32 >>> ((1 : Int32).toUInt32 &&& Int32.toUInt32 31)).toInt32) &&& 1431655765)) &&& 858993459) + ((((i0 - (((i0.toUInt32 >>> ((1 : Int32).toUInt32 &&& Int32.toUInt32 31)).toInt32) &&& 1431655765)).toUInt32 >>> ((2 : Int32).toUInt32 &&& Int32.toUInt32 31)).toInt32) &&& 858993459)) + (((((i0 - (((i0.toUInt32 >>> ((1 : Int32).toUInt32 &&& Int32.toUInt32 31)).toInt32) &&& 1431655765)) &&& 858993459) + ((((i0 - (((i0.toUInt32 >>> ((1 : Int32).toUInt32 &&& Int32.toUInt32 31)).toInt32) &&& 1431655765)).toUInt32 >>> ((2 : Int32).toUInt32 &&& Int32.toUInt32 31)).toInt32) &&& 858993459)).toUInt32 >>> ((4 : Int32).toUInt32 &&& Int32.toUInt32 31)).toInt32)) &&& 252645135) + (((((((i0 - (((i0.toUInt32 >>> ((1 : Int32).toUInt32 &&& Int32.toUInt32 31)).toInt32) &&& 1431655765)) &&& 858993459) + ((((i0 - (((i0.toUInt32 >>> ((1 : Int32).toUInt32 &&& Int32.toUInt32 31)).toInt32) &&& 1431655765)).toUInt32 >>> ((2 : Int32).toUInt32 &&& Int32.toUInt32 31)).toInt32) &&& 858993459)) + (((((i0 - (((i0.toUInt32 >>> ((1 : Int32).toUInt32 &&& Int32.toUInt32 31)).toInt32) &&& 1431655765)) &&& 858993459) + ((((i0 - (((i0.toUInt32 >>> ((1 : Int32).toUInt32 &&& Int32.toUInt32 31)).toInt32) &&& 1431655765)).toUInt32 >>> ((2 : Int32).toUInt32 &&& Int32.toUInt32 31)).toInt32) &&& 858993459)).toUInt32 >>> ((4 : Int32).toUInt32 &&& Int32.toUInt32 31)).toInt32)) &&& 252645135).toUInt32 >>> ((8 : Int32).toUInt32 &&& Int32.toUInt32 31)).toInt32)).toUInt32 >>> ((16 : Int32).toUInt32 &&& Int32.toUInt32 31)).toInt32) hx hb dJ6_bitCount_0f7a4_45 rfl ?_
  refine lv_iadd hx hb dJ6_bitCount_0f7a4_46 ?_
  refine lv_istore_n (lv' := [(0, .int (((((((i0 - (((i0.toUInt32 >>> ((1 : Int32).toUInt32 &&& Int32.toUInt32 31)).toInt32) &&& 1431655765)) &&& 858993459) + ((((i0 - (((i0.toUInt32 >>> ((1 : Int32).toUInt32 &&& Int32.toUInt32 31)).toInt32) &&& 1431655765)).toUInt32 >>> ((2 : Int32).toUInt32 &&& Int32.toUInt32 31)).toInt32) &&& 858993459)) + (((((i0 - (((i0.toUInt32 >>> ((1 : Int32).toUInt32 &&& Int32.toUInt32 31)).toInt32) &&& 1431655765)) &&& 858993459) + ((((i0 - (((i0.toUInt32 >>> ((1 : Int32).toUInt32 &&& Int32.toUInt32 31)).toInt32) &&& 1431655765)).toUInt32 >>> ((2 : Int32).toUInt32 &&& Int32.toUInt32 31)).toInt32) &&& 858993459)).toUInt32 >>> ((4 : Int32).toUInt32 &&& Int32.toUInt32 31)).toInt32)) &&& 252645135) + (((((((i0 - (((i0.toUInt32 >>> ((1 : Int32).toUInt32 &&& Int32.toUInt32 31)).toInt32) &&& 1431655765)) &&& 858993459) + ((((i0 - (((i0.toUInt32 >>> ((1 : Int32).toUInt32 &&& Int32.toUInt32 31)).toInt32) &&& 1431655765)).toUInt32 >>> ((2 : Int32).toUInt32 &&& Int32.toUInt32 31)).toInt32) &&& 858993459)) + (((((i0 - (((i0.toUInt32 >>> ((1 : Int32).toUInt32 &&& Int32.toUInt32 31)).toInt32) &&& 1431655765)) &&& 858993459) + ((((i0 - (((i0.toUInt32 >>> ((1 : Int32).toUInt32 &&& Int32.toUInt32 31)).toInt32) &&& 1431655765)).toUInt32 >>> ((2 : Int32).toUInt32 &&& Int32.toUInt32 31)).toInt32) &&& 858993459)).toUInt32 >>> ((4 : Int32).toUInt32 &&& Int32.toUInt32 31)).toInt32)) &&& 252645135).toUInt32 >>> ((8 : Int32).toUInt32 &&& Int32.toUInt32 31)).toInt32)) + ((((((((i0 - (((i0.toUInt32 >>> ((1 : Int32).toUInt32 &&& Int32.toUInt32 31)).toInt32) &&& 1431655765)) &&& 858993459) + ((((i0 - (((i0.toUInt32 >>> ((1 : Int32).toUInt32 &&& Int32.toUInt32 31)).toInt32) &&& 1431655765)).toUInt32 >>> ((2 : Int32).toUInt32 &&& Int32.toUInt32 31)).toInt32) &&& 858993459)) + (((((i0 - (((i0.toUInt32 >>> ((1 : Int32).toUInt32 &&& Int32.toUInt32 31)).toInt32) &&& 1431655765)) &&& 858993459) + ((((i0 - (((i0.toUInt32 >>> ((1 : Int32).toUInt32 &&& Int32.toUInt32 31)).toInt32) &&& 1431655765)).toUInt32 >>> ((2 : Int32).toUInt32 &&& Int32.toUInt32 31)).toInt32) &&& 858993459)).toUInt32 >>> ((4 : Int32).toUInt32 &&& Int32.toUInt32 31)).toInt32)) &&& 252645135) + (((((((i0 - (((i0.toUInt32 >>> ((1 : Int32).toUInt32 &&& Int32.toUInt32 31)).toInt32) &&& 1431655765)) &&& 858993459) + ((((i0 - (((i0.toUInt32 >>> ((1 : Int32).toUInt32 &&& Int32.toUInt32 31)).toInt32) &&& 1431655765)).toUInt32 >>> ((2 : Int32).toUInt32 &&& Int32.toUInt32 31)).toInt32) &&& 858993459)) + (((((i0 - (((i0.toUInt32 >>> ((1 : Int32).toUInt32 &&& Int32.toUInt32 31)).toInt32) &&& 1431655765)) &&& 858993459) + ((((i0 - (((i0.toUInt32 >>> ((1 : Int32).toUInt32 &&& Int32.toUInt32 31)).toInt32) &&& 1431655765)).toUInt32 >>> ((2 : Int32).toUInt32 &&& Int32.toUInt32 31)).toInt32) &&& 858993459)).toUInt32 >>> ((4 : Int32).toUInt32 &&& Int32.toUInt32 31)).toInt32)) &&& 252645135).toUInt32 >>> ((8 : Int32).toUInt32 &&& Int32.toUInt32 31)).toInt32)).toUInt32 >>> ((16 : Int32).toUInt32 &&& Int32.toUInt32 31)).toInt32)))]) hx hb dJ6_bitCount_0f7a4_47 rfl hl (by decide) rfl (fun ls hl => ?_)
  refine lv_iload_n hx hb dJ6_bitCount_0f7a4_48 rfl (lv_at hl 0 rfl) ?_
  refine lv_bipush (v := 63) hx hb dJ6_bitCount_0f7a4_49 (by decide +kernel) ?_
  refine lv_iand hx hb dJ6_bitCount_0f7a4_51 ?_
  exact ro_iret hx hb hr hlocks dJ6_bitCount_0f7a4_52 rfl
theorem i_X4_isSet_X4 : ∀ w ∈ wsX40, w ∈ wsX4_isSet := fun _ h => List.mem_cons_of_mem _ (List.mem_append_left _ (List.mem_append_right _ h))
theorem k_X4_isSet_fieldLink_23 : Cond.fieldLink RX4 23 "SameWater$World" "answers" "LSameWater$Rows;" ∈ wsX4_isSet := by decide +kernel
theorem i_X4_isSet_X2 : ∀ w ∈ wsX20, w ∈ wsX4_isSet := fun _ h => List.mem_cons_of_mem _ (List.mem_append_right _ h)
theorem k_X4_isSet_fieldLink_63 : Cond.fieldLink RX4 63 "SameWater$Rows" "size" "I" ∈ wsX4_isSet := by decide +kernel
theorem k_X4_isSet_methodLink_70 : Cond.methodLink RX4 70 Lib.Math.min.name ∈ wsX4_isSet := by decide +kernel
theorem k_X4_isSet_mst_70 : Cond.static Lib.Math.min.name ∈ wsX4_isSet := by decide +kernel
theorem k_X4_isSet_min_70 : Cond.initialized "java/lang/Math" ∈ wsX4_isSet := by decide +kernel
theorem k_X4_isSet_mco_70 : Cond.code Lib.Math.min.name Lib.Math.min.code 2 (some .int) ∈ wsX4_isSet := by decide +kernel
theorem kd_J6_bitCount_0f7a4 : yJ6_bitCount_0f7a4.cls ≠ "java/lang/invoke/MethodHandle" ∧ yJ6_bitCount_0f7a4.cls ≠ "java/lang/invoke/VarHandle" ∧ (parseMethodDescriptor yJ6_bitCount_0f7a4.desc).map (fun d => d.parameters.length) = some 1 := by decide +kernel
def w_isSet (wd : WT) (set0 : Int32) : Bool := (if (set0 &&& ((((1 : Int32) <<< ((if 30 < (nI (wAn wd).1) then 30 else (nI (wAn wd).1)) &&& 31)) - 1) ^^^ (-1))) = 0 then if 8 < (f_bitCount set0) then false else true else false)
set_option maxHeartbeats 4000000 in
set_option maxRecDepth 100000 in
theorem c_X4_isSet (l : Launch) (G : GG) (ad : Nat → Nat) (wd : WT) (set0 : Int32)  : Met l yX4_isSet wsX4_isSet { frames := 1, cells := 0, slots := 0, locals := 40 } (roP G [.ref (ad 0), .int set0] (fun H => WAt G ad wd H)) (roQ (some (.int (b2i (w_isSet wd set0))))) 0 0 nF := by
  refine Met.ofW (cc := cX4_isSet) (maxL := 3) (ret := (some .boolean)) (by decide) rfl ?_
  intro p e s m args below meth c s₁ Bd hml hv
  obtain ⟨rfl, hK, hB⟩ := hv
  have hx := Bd.exec
  have hb := Bd.bytes
  have hr := Bd.returns
  have hts := atoms_spec (ws := wsX4_isSet) Bd.pre
  have hown : s.vm.findClass RX4 = some m.cls := findClass_of_methodNamed Bd.named
  have hlocks := Bd.notSynchronized
  have hC : CallFix p m c cX4_isSet 3 s _ wsX4_isSet RX4 := ⟨hx, hb, hml, hown, hts⟩
  have hl := lv_entry ([.ref (ad 0), .int set0]) (n := 3) (Nat.le_of_ble_eq_true rfl)
  rw [lg_entry_eq]
  generalize (lg_sl ([.ref (ad 0), .int set0]) ++ List.replicate (3 - (lg_sl ([.ref (ad 0), .int set0])).length) Slot.unset).toArray = ls at hl ⊢
  have hl : lv_has ls 3 [(0, .ref (ad 0)), (1, .int set0)] := hl
  have hW := hB
  obtain ⟨f_o, f_ch, f_as, f_an, f_tp, ⟨qf, f_q, hqf⟩, f_lw, hlc⟩ := hB
  refine lv_iconst (v := 1) hx hb dX4_isSet_0 (by decide) ?_
  refine lv_aload_n hx hb dX4_isSet_1 rfl (lv_at hl 0 rfl) ?_
  refine r_get (C := RX4) (T := TX4) (N := 6) hx hb hts i_X4_isSet_X4 hown hK f_o rfl 2 (by decide) k_X4_isSet_fieldLink_23 rfl rfl dX4_isSet_2 ?_
  refine r_get (C := RX2) (T := TX2) (N := 4) hx hb hts i_X4_isSet_X2 hown hK f_an.1 rfl 3 (by decide) k_X4_isSet_fieldLink_63 rfl rfl dX4_isSet_5 ?_
  refine lv_bipush (v := 30) hx hb dX4_isSet_8 (by decide +kernel) ?_
  refine va_mmin hx hb (hml.trans hl.1.symm) hown (hts _ k_X4_isSet_methodLink_70) (hts _ k_X4_isSet_mst_70) (hts _ k_X4_isSet_min_70) (hts _ k_X4_isSet_mco_70) (Nat.le_of_ble_eq_true rfl) (Nat.le_of_ble_eq_true rfl) (Nat.zero_le _) (Nat.zero_le _) dX4_isSet_10 ?_
  refine lv_ishl hx hb dX4_isSet_13 ?_
  refine lv_iconst (v := 1) hx hb dX4_isSet_14 (by decide) ?_
  refine lv_isub hx hb dX4_isSet_15 ?_
  refine lv_istore_n (lv' := [(2, .int (((1 : Int32) <<< ((if 30 < (nI (wAn wd).1) then 30 else (nI (wAn wd).1)) &&& 31)) - 1)), (0, .ref (ad 0)), (1, .int set0)]) hx hb dX4_isSet_16 rfl hl (by decide) rfl (fun ls hl => ?_)
  refine lv_iload_n hx hb dX4_isSet_17 rfl (lv_at hl 2 rfl) ?_
  refine lv_iload_n hx hb dX4_isSet_18 rfl (lv_at hl 0 rfl) ?_
  refine lv_iconst (v := (-1)) hx hb dX4_isSet_19 (by decide) ?_
  refine lv_ixor hx hb dX4_isSet_20 ?_
  refine lv_iand hx hb dX4_isSet_21 ?_
  refine join_at (nL := 3) 39 [(2, .int (((1 : Int32) <<< ((if 30 < (nI (wAn wd).1) then 30 else (nI (wAn wd).1)) &&& 31)) - 1)), (0, .ref (ad 0)), (1, .int set0)] [.int (b2i (if (set0 &&& ((((1 : Int32) <<< ((if 30 < (nI (wAn wd).1) then 30 else (nI (wAn wd).1)) &&& 31)) - 1) ^^^ (-1))) = 0 then if 8 < (f_bitCount set0) then false else true else false))] (fun ls hl => ?_) (fun J_1 => ?_)
  · exact ro_zret hx hb hr hlocks dX4_isSet_39 rfl
  · refine lv_if_ne (tgt := 38) hx hb dX4_isSet_22 (by decide) (fun h_2 => ?_) (fun h_2 => ?_)
    · refine lv_iconst (v := 0) hx hb dX4_isSet_38 (by decide) ?_
      have hJ := J_1; (repeat rw [if_neg h_2] at hJ)
      first | exact hJ ls (lv_sub hl [0, 1, 2] rfl) | ((repeat rw [if_neg h_2] at hl); (repeat rw [if_neg h_2]); exact hJ ls (lv_sub hl [0, 1, 2] rfl))
    · refine lv_iload_n hx hb dX4_isSet_25 rfl (lv_at hl 2 rfl) ?_
      refine ro_call (va_runS (As := [.int set0]) (rest := []) hC (c_J6_bitCount_0f7a4 l G set0) (va_cwS 1 hts gX4_isSet_J6_bitCount_0f7a4 rfl rfl rfl kd_J6_bitCount_0f7a4 ⟨Nat.le_of_ble_eq_true rfl, Nat.le_of_ble_eq_true rfl⟩) (ro_preS hK trivial) rfl rfl hl.1 rfl (lv_room (Nat.le_of_ble_eq_true rfl)) dX4_isSet_26 ⟨Nat.zero_le _, Nat.zero_le _⟩) ?_
      refine lv_bipush (v := 8) hx hb dX4_isSet_29 (by decide +kernel) ?_
      refine lv_icmp_gt (tgt := 38) hx hb dX4_isSet_31 (by decide) (fun h_3 => ?_) (fun h_3 => ?_)
      · refine lv_iconst (v := 0) hx hb dX4_isSet_38 (by decide) ?_
        have hJ := J_1; (repeat rw [if_pos h_2] at hJ); (repeat rw [if_pos h_3] at hJ)
        first | exact hJ ls (lv_sub hl [0, 1, 2] rfl) | ((repeat rw [if_pos h_2] at hl); (repeat rw [if_pos h_3] at hl); (repeat rw [if_pos h_2]); (repeat rw [if_pos h_3]); exact hJ ls (lv_sub hl [0, 1, 2] rfl))
      · refine lv_iconst (v := 1) hx hb dX4_isSet_34 (by decide) ?_
        refine lv_goto (tgt := 39) hx hb dX4_isSet_35 (by decide) ?_
        have hJ := J_1; (repeat rw [if_pos h_2] at hJ); (repeat rw [if_neg h_3] at hJ)
        first | exact hJ ls (lv_sub hl [0, 1, 2] rfl) | ((repeat rw [if_pos h_2] at hl); (repeat rw [if_neg h_3] at hl); (repeat rw [if_pos h_2]); (repeat rw [if_neg h_3]); exact hJ ls (lv_sub hl [0, 1, 2] rfl))
theorem kd_X4_chanceOf200 : yX4_chanceOf200.cls = RX4 ∧ yX4_chanceOf200.cls ≠ "java/lang/invoke/MethodHandle" ∧ yX4_chanceOf200.cls ≠ "java/lang/invoke/VarHandle" ∧ (parseMethodDescriptor yX4_chanceOf200.desc).map (fun d => d.parameters.length) = some 2 := by decide +kernel
def w_oddsIt_st (wd : WT) (law set0 : Int32) (k : Nat) (ab : Int64) : Int64 := if ((set0 >>> ((nI k) &&& 31)) &&& 1) = 1 then ab * ((w_chanceOf200 wd law (nI k) : Int32).toInt64) else ab
def w_oddsIt (wd : WT) (law set0 : Int32) (ab0 : Int64) : Nat → Int64
  | 0 => ab0
  | k + 1 => w_oddsIt_st wd law set0 k (w_oddsIt wd law set0 ab0 k)
def w_oddsAbove (wd : WT) (law : Int32) (set0 : Int32) : Int64 := (w_oddsIt wd law set0 1 30)
set_option maxHeartbeats 4000000 in
set_option maxRecDepth 100000 in
theorem c_X4_oddsAbove (l : Launch) (G : GG) (ad : Nat → Nat) (wd : WT) (law : Int32) (set0 : Int32)  : Met l yX4_oddsAbove wsX4_oddsAbove { frames := 6, cells := 0, slots := 0, locals := 163 } (roP G [.ref (ad 0), .int law, .int set0] (fun H => WAt G ad wd H)) (roQ (some (.long (w_oddsAbove wd law set0)))) 0 0 nF := by
  refine Met.ofW (cc := cX4_oddsAbove) (maxL := 6) (ret := (some .long)) (by decide) rfl ?_
  intro p e s m args below meth c s₁ Bd hml hv
  obtain ⟨rfl, hK, hB⟩ := hv
  have hx := Bd.exec
  have hb := Bd.bytes
  have hr := Bd.returns
  have hts := atoms_spec (ws := wsX4_oddsAbove) Bd.pre
  have hown : s.vm.findClass RX4 = some m.cls := findClass_of_methodNamed Bd.named
  have hlocks := Bd.notSynchronized
  have hC : CallFix p m c cX4_oddsAbove 6 s _ wsX4_oddsAbove RX4 := ⟨hx, hb, hml, hown, hts⟩
  have hl := lv_entry ([.ref (ad 0), .int law, .int set0]) (n := 6) (Nat.le_of_ble_eq_true rfl)
  rw [lg_entry_eq]
  generalize (lg_sl ([.ref (ad 0), .int law, .int set0]) ++ List.replicate (6 - (lg_sl ([.ref (ad 0), .int law, .int set0])).length) Slot.unset).toArray = ls at hl ⊢
  have hl : lv_has ls 6 [(0, .ref (ad 0)), (1, .int law), (2, .int set0)] := hl
  have hW := hB
  obtain ⟨f_o, f_ch, f_as, f_an, f_tp, ⟨qf, f_q, hqf⟩, f_lw, hlc⟩ := hB
  refine lv_lconst (v := 1) hx hb dX4_oddsAbove_0 (by decide) ?_
  refine lv_lstore_n (lv' := [(3, .long 1), (0, .ref (ad 0)), (1, .int law), (2, .int set0)]) hx hb dX4_oddsAbove_1 rfl hl (by decide) rfl (fun ls hl => ?_)
  refine lv_iconst (v := 0) hx hb dX4_oddsAbove_2 (by decide) ?_
  refine lv_istore (lv' := [(5, .int 0), (3, .long 1), (0, .ref (ad 0)), (1, .int law), (2, .int set0)]) hx hb dX4_oddsAbove_3 hl (by decide) rfl (fun ls hl => ?_)
  refine loop_at (nL := 6) (fun k : Nat => [(0, .ref (ad 0)), (1, .int law), (2, .int set0), (3, .long (w_oddsIt wd law set0 1 k)), (5, .int (nI k))]) (fun k => k ≤ 30) (fun k => 30 - k) 0 (Nat.zero_le _) (lv_sub hl [2, 3, 4, 1, 0] rfl) (fun k hk_k ih_k ls hl => ?_)
  have hl : lv_has ls 6 [(0, .ref (ad 0)), (1, .int law), (2, .int set0), (3, .long (w_oddsIt wd law set0 1 k)), (5, .int (nI k))] := hl
  refine lv_iload hx hb dX4_oddsAbove_5 (lv_at hl 4 rfl) ?_
  refine lv_bipush (v := 30) hx hb dX4_oddsAbove_7 (by decide +kernel) ?_
  refine lv_icmp_ge (tgt := 39) hx hb dX4_oddsAbove_9 (by decide) (fun h_1 => ?_) (fun h_1 => ?_)
  · have hN_k : k = 30 := ge_ex (N := 30) rfl h_1 hk_k (by omega)
    subst hN_k
    refine lv_lload_n hx hb dX4_oddsAbove_39 rfl (lv_at hl 3 rfl) ?_
    exact ro_lret hx hb hr hlocks dX4_oddsAbove_40 rfl
  · have hlt_k : k < 30 := ge_in (N := 30) rfl h_1 hk_k (by omega)
    refine lv_iload_n hx hb dX4_oddsAbove_12 rfl (lv_at hl 2 rfl) ?_
    refine lv_iload hx hb dX4_oddsAbove_13 (lv_at hl 4 rfl) ?_
    refine lv_ishr hx hb dX4_oddsAbove_15 ?_
    refine lv_iconst (v := 1) hx hb dX4_oddsAbove_16 (by decide) ?_
    refine lv_iand hx hb dX4_oddsAbove_17 ?_
    refine lv_iconst (v := 1) hx hb dX4_oddsAbove_18 (by decide) ?_
    refine join_at (nL := 6) 33 [(3, .long (if ((set0 >>> ((nI k) &&& 31)) &&& 1) = 1 then (w_oddsIt wd law set0 1 k) * ((w_chanceOf200 wd law (nI k) : Int32).toInt64) else (w_oddsIt wd law set0 1 k))), (0, .ref (ad 0)), (1, .int law), (2, .int set0), (5, .int (nI k))] [] (fun ls hl => ?_) (fun J_2 => ?_)
    · refine lv_iinc (v := (nI k) + 1) (lv' := [(5, .int ((nI k) + 1)), (3, .long (if ((set0 >>> ((nI k) &&& 31)) &&& 1) = 1 then (w_oddsIt wd law set0 1 k) * ((w_chanceOf200 wd law (nI k) : Int32).toInt64) else (w_oddsIt wd law set0 1 k))), (0, .ref (ad 0)), (1, .int law), (2, .int set0)]) hx hb dX4_oddsAbove_33 hl (k := 4) rfl rfl (by decide) rfl (fun ls hl => ?_)
      refine lv_goto (tgt := 5) hx hb dX4_oddsAbove_36 (by decide) ?_
      have hE : (w_oddsIt wd law set0 1 (k + 1)) = if ((set0 >>> ((nI k) &&& 31)) &&& 1) = 1 then (w_oddsIt wd law set0 1 k) * ((w_chanceOf200 wd law (nI k) : Int32).toInt64) else (w_oddsIt wd law set0 1 k) := (by show w_oddsIt_st wd law set0 k (w_oddsIt wd law set0 1 k) = _; (try unfold w_oddsIt_st); first | done | rfl)
      refine ih_k (k + 1) (show k + 1 ≤ 30 by omega) (by omega) ls ?_
      show lv_has ls 6 [(0, .ref (ad 0)), (1, .int law), (2, .int set0), (3, .long (w_oddsIt wd law set0 1 (k + 1))), (5, .int (nI (k + 1)))]
      rw [nI_succ, hE]
      exact lv_sub hl [2, 3, 4, 1, 0] rfl
    · refine lv_icmp_ne (tgt := 33) hx hb dX4_oddsAbove_19 (by decide) (fun h_3 => ?_) (fun h_3 => ?_)
      · have hJ := J_2; (repeat rw [if_neg h_3] at hJ)
        first | exact hJ ls (lv_sub hl [3, 0, 1, 2, 4] rfl) | ((repeat rw [if_neg h_3] at hl); (repeat rw [if_neg h_3]); exact hJ ls (lv_sub hl [3, 0, 1, 2, 4] rfl))
      · refine lv_lload_n hx hb dX4_oddsAbove_22 rfl (lv_at hl 3 rfl) ?_
        refine lv_aload_n hx hb dX4_oddsAbove_23 rfl (lv_at hl 0 rfl) ?_
        refine lv_iload_n hx hb dX4_oddsAbove_24 rfl (lv_at hl 1 rfl) ?_
        refine lv_iload hx hb dX4_oddsAbove_25 (lv_at hl 4 rfl) ?_
        refine ro_call (va_runV (As := [.int law, .int (nI k)]) (rest := [.long (w_oddsIt wd law set0 1 k)]) hC (c_X4_chanceOf200 l G ad wd law (nI k)) (cwV 2 hts gX4_oddsAbove_X4_chanceOf200 rfl rfl rfl kd_X4_chanceOf200 ⟨Nat.le_of_ble_eq_true rfl, Nat.le_of_ble_eq_true rfl⟩) (ro_preV hK f_o rfl hW) rfl rfl hl.1 rfl (lv_room (Nat.le_of_ble_eq_true rfl)) dX4_oddsAbove_27 ⟨Nat.zero_le _, Nat.zero_le _⟩) ?_
        refine lv_i2l (v := (w_chanceOf200 wd law (nI k) : Int32).toInt64) hx hb dX4_oddsAbove_30 rfl ?_
        refine lv_lmul hx hb dX4_oddsAbove_31 ?_
        refine lv_lstore_n (lv' := [(3, .long ((w_oddsIt wd law set0 1 k) * ((w_chanceOf200 wd law (nI k) : Int32).toInt64))), (0, .ref (ad 0)), (1, .int law), (2, .int set0), (5, .int (nI k))]) hx hb dX4_oddsAbove_32 rfl hl (by decide) rfl (fun ls hl => ?_)
        have hJ := J_2; (repeat rw [if_pos h_3] at hJ)
        first | exact hJ ls (lv_sub hl [0, 1, 2, 3, 4] rfl) | ((repeat rw [if_pos h_3] at hl); (repeat rw [if_pos h_3]); exact hJ ls (lv_sub hl [0, 1, 2, 3, 4] rfl))
theorem i_X4_firstImpossible_X4 : ∀ w ∈ wsX40, w ∈ wsX4_firstImpossible := fun _ h => List.mem_cons_of_mem _ (List.mem_append_left _ (List.mem_append_left _ (List.mem_append_right _ h)))
theorem k_X4_firstImpossible_fieldLink_23 : Cond.fieldLink RX4 23 "SameWater$World" "answers" "LSameWater$Rows;" ∈ wsX4_firstImpossible := by decide +kernel
theorem i_X4_firstImpossible_X2 : ∀ w ∈ wsX20, w ∈ wsX4_firstImpossible := fun _ h => List.mem_cons_of_mem _ (List.mem_append_left _ (List.mem_append_right _ h))
theorem k_X4_firstImpossible_fieldLink_63 : Cond.fieldLink RX4 63 "SameWater$Rows" "size" "I" ∈ wsX4_firstImpossible := by decide +kernel
def w_impGo (wd : WT) (law : Int32) : Nat → Nat → Int32
  | 0, _ => (-5)
  | n + 1, k => if (w_chanceOf200 wd law (nI k)) = 0 then nI k else w_impGo wd law n (k + 1) 
theorem w_impGo_0 (wd : WT) (law : Int32) (k : Nat)  : w_impGo wd law 0 k  = ((-5)) := rfl
theorem w_impGo_s (wd : WT) (law : Int32) (n k : Nat)  : w_impGo wd law (n + 1) k  = (if (w_chanceOf200 wd law (nI k)) = 0 then nI k else w_impGo wd law n (k + 1) ) := rfl
def w_firstImpossible (wd : WT) (law : Int32) : Int32 := w_impGo wd law ((wAn wd).1) 0 
set_option maxHeartbeats 4000000 in
set_option maxRecDepth 100000 in
theorem c_X4_firstImpossible (l : Launch) (G : GG) (ad : Nat → Nat) (wd : WT) (law : Int32)  : Met l yX4_firstImpossible wsX4_firstImpossible { frames := 6, cells := 0, slots := 0, locals := 163 } (roP G [.ref (ad 0), .int law] (fun H => WAt G ad wd H)) (roQ (some (.int (w_firstImpossible wd law)))) 0 0 nF := by
  refine Met.ofW (cc := cX4_firstImpossible) (maxL := 3) (ret := (some .int)) (by decide) rfl ?_
  intro p e s m args below meth c s₁ Bd hml hv
  obtain ⟨rfl, hK, hB⟩ := hv
  have hx := Bd.exec
  have hb := Bd.bytes
  have hr := Bd.returns
  have hts := atoms_spec (ws := wsX4_firstImpossible) Bd.pre
  have hown : s.vm.findClass RX4 = some m.cls := findClass_of_methodNamed Bd.named
  have hlocks := Bd.notSynchronized
  have hC : CallFix p m c cX4_firstImpossible 3 s _ wsX4_firstImpossible RX4 := ⟨hx, hb, hml, hown, hts⟩
  have hl := lv_entry ([.ref (ad 0), .int law]) (n := 3) (Nat.le_of_ble_eq_true rfl)
  rw [lg_entry_eq]
  generalize (lg_sl ([.ref (ad 0), .int law]) ++ List.replicate (3 - (lg_sl ([.ref (ad 0), .int law])).length) Slot.unset).toArray = ls at hl ⊢
  have hl : lv_has ls 3 [(0, .ref (ad 0)), (1, .int law)] := hl
  have hW := hB
  obtain ⟨f_o, f_ch, f_as, f_an, f_tp, ⟨qf, f_q, hqf⟩, f_lw, hlc⟩ := hB
  refine lv_iconst (v := 0) hx hb dX4_firstImpossible_0 (by decide) ?_
  refine lv_istore_n (lv' := [(2, .int 0), (0, .ref (ad 0)), (1, .int law)]) hx hb dX4_firstImpossible_1 rfl hl (by decide) rfl (fun ls hl => ?_)
  refine loop_at (nL := 3) (α := Nat) (fun a9 => [(0, .ref (ad 0)), (1, .int law), (2, .int (nI a9))]) (fun a9 => a9 ≤ (wAn wd).1 ∧ w_impGo wd law (((wAn wd).1) - a9) a9  = w_impGo wd law ((wAn wd).1) 0 ) (fun a9 => (wAn wd).1 - a9) 0 ⟨(by first | exact Nat.zero_le _ | decide | omega), rfl⟩ (lv_sub hl [1, 2, 0] rfl) (fun a9 hI9 ih_k ls hl => ?_)
  obtain ⟨k, rfl⟩ : ∃ z, z = a9 := ⟨_, rfl⟩
  obtain ⟨hk_k, hV⟩ : k ≤ (wAn wd).1 ∧ w_impGo wd law (((wAn wd).1) - k) k  = w_impGo wd law ((wAn wd).1) 0  := hI9
  have hl : lv_has ls 3 [(0, .ref (ad 0)), (1, .int law), (2, .int (nI k))] := hl
  refine lv_iload_n hx hb dX4_firstImpossible_2 rfl (lv_at hl 2 rfl) ?_
  refine lv_aload_n hx hb dX4_firstImpossible_3 rfl (lv_at hl 0 rfl) ?_
  refine r_get (C := RX4) (T := TX4) (N := 6) hx hb hts i_X4_firstImpossible_X4 hown hK f_o rfl 2 (by decide) k_X4_firstImpossible_fieldLink_23 rfl rfl dX4_firstImpossible_4 ?_
  refine r_get (C := RX2) (T := TX2) (N := 4) hx hb hts i_X4_firstImpossible_X2 hown hK f_an.1 rfl 3 (by decide) k_X4_firstImpossible_fieldLink_63 rfl rfl dX4_firstImpossible_7 ?_
  refine lv_icmp_ge (tgt := 30) hx hb dX4_firstImpossible_10 (by decide) (fun h_1 => ?_) (fun h_1 => ?_)
  · have hN_k : k = (wAn wd).1 := ge_ex (N := (wAn wd).1) rfl h_1 hk_k (by have := f_an.2.2.1; omega)
    subst hN_k
    rw [Nat.sub_self] at hV
    refine lv_bipush (v := (-5)) hx hb dX4_firstImpossible_30 (by decide +kernel) ?_
    exact ro_iret hx hb hr hlocks dX4_firstImpossible_32 (by (try unfold w_firstImpossible); rw [← hV, w_impGo_0]; first | done | rfl)
  · have hlt_k : k < (wAn wd).1 := ge_in (N := (wAn wd).1) rfl h_1 hk_k (by have := f_an.2.2.1; omega)
    obtain ⟨n9, hn9⟩ : ∃ n9, ((wAn wd).1) - k = n9 + 1 := ⟨((wAn wd).1) - k - 1, by omega⟩
    rw [hn9] at hV
    refine lv_aload_n hx hb dX4_firstImpossible_13 rfl (lv_at hl 0 rfl) ?_
    refine lv_iload_n hx hb dX4_firstImpossible_14 rfl (lv_at hl 1 rfl) ?_
    refine lv_iload_n hx hb dX4_firstImpossible_15 rfl (lv_at hl 2 rfl) ?_
    refine ro_call (va_runV (As := [.int law, .int (nI k)]) (rest := []) hC (c_X4_chanceOf200 l G ad wd law (nI k)) (cwV 2 hts gX4_firstImpossible_X4_chanceOf200 rfl rfl rfl kd_X4_chanceOf200 ⟨Nat.le_of_ble_eq_true rfl, Nat.le_of_ble_eq_true rfl⟩) (ro_preV hK f_o rfl hW) rfl rfl hl.1 rfl (lv_room (Nat.le_of_ble_eq_true rfl)) dX4_firstImpossible_16 ⟨Nat.zero_le _, Nat.zero_le _⟩) ?_
    refine lv_if_ne (tgt := 24) hx hb dX4_firstImpossible_19 (by decide) (fun h_2 => ?_) (fun h_2 => ?_)
    · refine lv_iinc (v := (nI k) + 1) (lv' := [(2, .int ((nI k) + 1)), (0, .ref (ad 0)), (1, .int law)]) hx hb dX4_firstImpossible_24 hl (k := 2) rfl rfl (by decide) rfl (fun ls hl => ?_)
      refine lv_goto (tgt := 2) hx hb dX4_firstImpossible_27 (by decide) ?_
      have hE : w_impGo wd law n9 (k + 1)  = w_impGo wd law ((wAn wd).1) 0  := (by rw [← hV, w_impGo_s]; (repeat rw [if_neg h_2]); first | done | rfl)
      refine ih_k (k + 1) ⟨(show k + 1 ≤ (wAn wd).1 by omega), (by show w_impGo wd law (((wAn wd).1) - (k + 1)) (k + 1)  = _; rw [show ((wAn wd).1) - (k + 1) = n9 by omega]; exact hE)⟩ (show ((wAn wd).1) - (k + 1) < ((wAn wd).1) - k by omega) ls ?_
      show lv_has ls 3 [(0, .ref (ad 0)), (1, .int law), (2, .int (nI (k + 1)))]
      rw [nI_succ]
      exact lv_sub hl [1, 2, 0] rfl
    · refine lv_iload_n hx hb dX4_firstImpossible_22 rfl (lv_at hl 2 rfl) ?_
      exact ro_iret hx hb hr hlocks dX4_firstImpossible_23 (by (try unfold w_firstImpossible); rw [← hV, w_impGo_s]; (repeat rw [if_neg h_1]); (repeat rw [if_pos h_2]); first | done | rfl)
theorem i_X4_rightOf_X4 : ∀ w ∈ wsX40, w ∈ wsX4_rightOf := fun _ h => List.mem_cons_of_mem _ (List.mem_append_left _ (List.mem_append_left _ (List.mem_append_right _ h)))
theorem k_X4_rightOf_fieldLink_23 : Cond.fieldLink RX4 23 "SameWater$World" "answers" "LSameWater$Rows;" ∈ wsX4_rightOf := by decide +kernel
theorem i_X4_rightOf_X2 : ∀ w ∈ wsX20, w ∈ wsX4_rightOf := fun _ h => List.mem_cons_of_mem _ (List.mem_append_left _ (List.mem_append_right _ h))
theorem k_X4_rightOf_fieldLink_63 : Cond.fieldLink RX4 63 "SameWater$Rows" "size" "I" ∈ wsX4_rightOf := by decide +kernel
def w_rightIt_st (wd : WT) (law child : Int32) (k : Nat) (rg : Int32) : Int32 := if child = (-1) then if (w_isAsTold wd law (nI k)) = true then rg + 1 else rg else if (f_at 5 (wAn wd) (nI k) 0) = child then if (w_isAsTold wd law (nI k)) = true then rg + 1 else rg else rg
def w_rightIt (wd : WT) (law child : Int32) (rg0 : Int32) : Nat → Int32
  | 0 => rg0
  | k + 1 => w_rightIt_st wd law child k (w_rightIt wd law child rg0 k)
def w_rightOf (wd : WT) (law : Int32) (child : Int32) : Int32 := (w_rightIt wd law child 0 ((wAn wd).1))
set_option maxHeartbeats 4000000 in
set_option maxRecDepth 100000 in
theorem c_X4_rightOf (l : Launch) (G : GG) (ad : Nat → Nat) (wd : WT) (law : Int32) (child : Int32)  : Met l yX4_rightOf wsX4_rightOf { frames := 5, cells := 0, slots := 0, locals := 140 } (roP G [.ref (ad 0), .int law, .int child] (fun H => WAt G ad wd H)) (roQ (some (.int (w_rightOf wd law child)))) 0 0 nF := by
  refine Met.ofW (cc := cX4_rightOf) (maxL := 5) (ret := (some .int)) (by decide) rfl ?_
  intro p e s m args below meth c s₁ Bd hml hv
  obtain ⟨rfl, hK, hB⟩ := hv
  have hx := Bd.exec
  have hb := Bd.bytes
  have hr := Bd.returns
  have hts := atoms_spec (ws := wsX4_rightOf) Bd.pre
  have hown : s.vm.findClass RX4 = some m.cls := findClass_of_methodNamed Bd.named
  have hlocks := Bd.notSynchronized
  have hC : CallFix p m c cX4_rightOf 5 s _ wsX4_rightOf RX4 := ⟨hx, hb, hml, hown, hts⟩
  have hl := lv_entry ([.ref (ad 0), .int law, .int child]) (n := 5) (Nat.le_of_ble_eq_true rfl)
  rw [lg_entry_eq]
  generalize (lg_sl ([.ref (ad 0), .int law, .int child]) ++ List.replicate (5 - (lg_sl ([.ref (ad 0), .int law, .int child])).length) Slot.unset).toArray = ls at hl ⊢
  have hl : lv_has ls 5 [(0, .ref (ad 0)), (1, .int law), (2, .int child)] := hl
  have hW := hB
  obtain ⟨f_o, f_ch, f_as, f_an, f_tp, ⟨qf, f_q, hqf⟩, f_lw, hlc⟩ := hB
  refine lv_iconst (v := 0) hx hb dX4_rightOf_0 (by decide) ?_
  refine lv_istore_n (lv' := [(3, .int 0), (0, .ref (ad 0)), (1, .int law), (2, .int child)]) hx hb dX4_rightOf_1 rfl hl (by decide) rfl (fun ls hl => ?_)
  refine lv_iconst (v := 0) hx hb dX4_rightOf_2 (by decide) ?_
  refine lv_istore (lv' := [(4, .int 0), (3, .int 0), (0, .ref (ad 0)), (1, .int law), (2, .int child)]) hx hb dX4_rightOf_3 hl (by decide) rfl (fun ls hl => ?_)
  refine loop_at (nL := 5) (fun k : Nat => [(0, .ref (ad 0)), (1, .int law), (2, .int child), (3, .int (w_rightIt wd law child 0 k)), (4, .int (nI k))]) (fun k => k ≤ (wAn wd).1) (fun k => (wAn wd).1 - k) 0 (Nat.zero_le _) (lv_sub hl [2, 3, 4, 1, 0] rfl) (fun k hk_k ih_k ls hl => ?_)
  have hl : lv_has ls 5 [(0, .ref (ad 0)), (1, .int law), (2, .int child), (3, .int (w_rightIt wd law child 0 k)), (4, .int (nI k))] := hl
  refine lv_iload hx hb dX4_rightOf_5 (lv_at hl 4 rfl) ?_
  refine lv_aload_n hx hb dX4_rightOf_7 rfl (lv_at hl 0 rfl) ?_
  refine r_get (C := RX4) (T := TX4) (N := 6) hx hb hts i_X4_rightOf_X4 hown hK f_o rfl 2 (by decide) k_X4_rightOf_fieldLink_23 rfl rfl dX4_rightOf_8 ?_
  refine r_get (C := RX2) (T := TX2) (N := 4) hx hb hts i_X4_rightOf_X2 hown hK f_an.1 rfl 3 (by decide) k_X4_rightOf_fieldLink_63 rfl rfl dX4_rightOf_11 ?_
  refine lv_icmp_ge (tgt := 55) hx hb dX4_rightOf_14 (by decide) (fun h_1 => ?_) (fun h_1 => ?_)
  · have hN_k : k = (wAn wd).1 := ge_ex (N := (wAn wd).1) rfl h_1 hk_k (by have := f_an.2.2.1; omega)
    subst hN_k
    refine lv_iload_n hx hb dX4_rightOf_55 rfl (lv_at hl 3 rfl) ?_
    exact ro_iret hx hb hr hlocks dX4_rightOf_56 rfl
  · have hlt_k : k < (wAn wd).1 := ge_in (N := (wAn wd).1) rfl h_1 hk_k (by have := f_an.2.2.1; omega)
    refine lv_iload_n hx hb dX4_rightOf_17 rfl (lv_at hl 2 rfl) ?_
    refine lv_iconst (v := (-1)) hx hb dX4_rightOf_18 (by decide) ?_
    refine join_at (nL := 5) 49 [(3, .int (if child = (-1) then if (w_isAsTold wd law (nI k)) = true then (w_rightIt wd law child 0 k) + 1 else (w_rightIt wd law child 0 k) else if (f_at 5 (wAn wd) (nI k) 0) = child then if (w_isAsTold wd law (nI k)) = true then (w_rightIt wd law child 0 k) + 1 else (w_rightIt wd law child 0 k) else (w_rightIt wd law child 0 k))), (0, .ref (ad 0)), (1, .int law), (2, .int child), (4, .int (nI k))] [] (fun ls hl => ?_) (fun J_2 => ?_)
    · refine lv_iinc (v := (nI k) + 1) (lv' := [(4, .int ((nI k) + 1)), (3, .int (if child = (-1) then if (w_isAsTold wd law (nI k)) = true then (w_rightIt wd law child 0 k) + 1 else (w_rightIt wd law child 0 k) else if (f_at 5 (wAn wd) (nI k) 0) = child then if (w_isAsTold wd law (nI k)) = true then (w_rightIt wd law child 0 k) + 1 else (w_rightIt wd law child 0 k) else (w_rightIt wd law child 0 k))), (0, .ref (ad 0)), (1, .int law), (2, .int child)]) hx hb dX4_rightOf_49 hl (k := 4) rfl rfl (by decide) rfl (fun ls hl => ?_)
      refine lv_goto (tgt := 5) hx hb dX4_rightOf_52 (by decide) ?_
      have hE : (w_rightIt wd law child 0 (k + 1)) = if child = (-1) then if (w_isAsTold wd law (nI k)) = true then (w_rightIt wd law child 0 k) + 1 else (w_rightIt wd law child 0 k) else if (f_at 5 (wAn wd) (nI k) 0) = child then if (w_isAsTold wd law (nI k)) = true then (w_rightIt wd law child 0 k) + 1 else (w_rightIt wd law child 0 k) else (w_rightIt wd law child 0 k) := (by show w_rightIt_st wd law child k (w_rightIt wd law child 0 k) = _; (try unfold w_rightIt_st); first | done | rfl)
      refine ih_k (k + 1) (show k + 1 ≤ (wAn wd).1 by omega) (by omega) ls ?_
      show lv_has ls 5 [(0, .ref (ad 0)), (1, .int law), (2, .int child), (3, .int (w_rightIt wd law child 0 (k + 1))), (4, .int (nI (k + 1)))]
      rw [nI_succ, hE]
      exact lv_sub hl [2, 3, 4, 1, 0] rfl
    · refine lv_icmp_eq (tgt := 36) hx hb dX4_rightOf_19 (by decide) (fun h_3 => ?_) (fun h_3 => ?_)
      · refine lv_aload_n hx hb dX4_rightOf_36 rfl (lv_at hl 0 rfl) ?_
        refine lv_iload_n hx hb dX4_rightOf_37 rfl (lv_at hl 1 rfl) ?_
        refine lv_iload hx hb dX4_rightOf_38 (lv_at hl 4 rfl) ?_
        refine ro_call (va_runV (As := [.int law, .int (nI k)]) (rest := []) hC (c_X4_isAsTold l G ad wd law (nI k)) (cwV 2 hts gX4_rightOf_X4_isAsTold rfl rfl rfl kd_X4_isAsTold ⟨Nat.le_of_ble_eq_true rfl, Nat.le_of_ble_eq_true rfl⟩) (ro_preV hK f_o rfl hW) rfl rfl hl.1 rfl (lv_room (Nat.le_of_ble_eq_true rfl)) dX4_rightOf_40 ⟨Nat.zero_le _, Nat.zero_le _⟩) ?_
        refine bz_eq (tgt := 49) hx hb dX4_rightOf_43 (by decide) (fun h_4 => ?_) (fun h_4 => ?_)
        · have hJ := J_2; (repeat rw [if_pos h_3] at hJ); (repeat rw [if_neg h_4] at hJ)
          first | exact hJ ls (lv_sub hl [3, 0, 1, 2, 4] rfl) | ((repeat rw [if_pos h_3] at hl); (repeat rw [if_neg h_4] at hl); (repeat rw [if_pos h_3]); (repeat rw [if_neg h_4]); exact hJ ls (lv_sub hl [3, 0, 1, 2, 4] rfl))
        · refine lv_iinc (v := (w_rightIt wd law child 0 k) + 1) (lv' := [(3, .int ((w_rightIt wd law child 0 k) + 1)), (0, .ref (ad 0)), (1, .int law), (2, .int child), (4, .int (nI k))]) hx hb dX4_rightOf_46 hl (k := 3) rfl rfl (by decide) rfl (fun ls hl => ?_)
          have hJ := J_2; (repeat rw [if_pos h_3] at hJ); (repeat rw [if_pos h_4] at hJ)
          first | exact hJ ls (lv_sub hl [0, 1, 2, 3, 4] rfl) | ((repeat rw [if_pos h_3] at hl); (repeat rw [if_pos h_4] at hl); (repeat rw [if_pos h_3]); (repeat rw [if_pos h_4]); exact hJ ls (lv_sub hl [0, 1, 2, 3, 4] rfl))
      · refine lv_aload_n hx hb dX4_rightOf_22 rfl (lv_at hl 0 rfl) ?_
        refine r_get (C := RX4) (T := TX4) (N := 6) hx hb hts i_X4_rightOf_X4 hown hK f_o rfl 2 (by decide) k_X4_rightOf_fieldLink_23 rfl rfl dX4_rightOf_23 ?_
        refine lv_iload hx hb dX4_rightOf_26 (lv_at hl 4 rfl) ?_
        refine lv_iconst (v := 0) hx hb dX4_rightOf_28 (by decide) ?_
        refine ro_call (va_runV (As := [.int (nI k), .int 0]) (rest := []) hC (c_X2_at l G (ad 5) (ad 6) 40 5 (wAn wd) (nI k) 0) (cwV 2 hts gX4_rightOf_X2_at rfl rfl rfl kd_X2_at ⟨Nat.le_of_ble_eq_true rfl, Nat.le_of_ble_eq_true rfl⟩) (ro_preV hK f_an.1 rfl f_an) rfl rfl hl.1 rfl (lv_room (Nat.le_of_ble_eq_true rfl)) dX4_rightOf_29 ⟨Nat.zero_le _, Nat.zero_le _⟩) ?_
        refine lv_iload_n hx hb dX4_rightOf_32 rfl (lv_at hl 2 rfl) ?_
        refine lv_icmp_ne (tgt := 49) hx hb dX4_rightOf_33 (by decide) (fun h_5 => ?_) (fun h_5 => ?_)
        · have hJ := J_2; (repeat rw [if_neg h_3] at hJ); (repeat rw [if_neg h_5] at hJ)
          first | exact hJ ls (lv_sub hl [3, 0, 1, 2, 4] rfl) | ((repeat rw [if_neg h_3] at hl); (repeat rw [if_neg h_5] at hl); (repeat rw [if_neg h_3]); (repeat rw [if_neg h_5]); exact hJ ls (lv_sub hl [3, 0, 1, 2, 4] rfl))
        · refine lv_aload_n hx hb dX4_rightOf_36 rfl (lv_at hl 0 rfl) ?_
          refine lv_iload_n hx hb dX4_rightOf_37 rfl (lv_at hl 1 rfl) ?_
          refine lv_iload hx hb dX4_rightOf_38 (lv_at hl 4 rfl) ?_
          refine ro_call (va_runV (As := [.int law, .int (nI k)]) (rest := []) hC (c_X4_isAsTold l G ad wd law (nI k)) (cwV 2 hts gX4_rightOf_X4_isAsTold rfl rfl rfl kd_X4_isAsTold ⟨Nat.le_of_ble_eq_true rfl, Nat.le_of_ble_eq_true rfl⟩) (ro_preV hK f_o rfl hW) rfl rfl hl.1 rfl (lv_room (Nat.le_of_ble_eq_true rfl)) dX4_rightOf_40 ⟨Nat.zero_le _, Nat.zero_le _⟩) ?_
          refine bz_eq (tgt := 49) hx hb dX4_rightOf_43 (by decide) (fun h_6 => ?_) (fun h_6 => ?_)
          · have hJ := J_2; (repeat rw [if_neg h_3] at hJ); (repeat rw [if_pos h_5] at hJ); (repeat rw [if_neg h_6] at hJ)
            first | exact hJ ls (lv_sub hl [3, 0, 1, 2, 4] rfl) | ((repeat rw [if_neg h_3] at hl); (repeat rw [if_pos h_5] at hl); (repeat rw [if_neg h_6] at hl); (repeat rw [if_neg h_3]); (repeat rw [if_pos h_5]); (repeat rw [if_neg h_6]); exact hJ ls (lv_sub hl [3, 0, 1, 2, 4] rfl))
          · refine lv_iinc (v := (w_rightIt wd law child 0 k) + 1) (lv' := [(3, .int ((w_rightIt wd law child 0 k) + 1)), (0, .ref (ad 0)), (1, .int law), (2, .int child), (4, .int (nI k))]) hx hb dX4_rightOf_46 hl (k := 3) rfl rfl (by decide) rfl (fun ls hl => ?_)
            have hJ := J_2; (repeat rw [if_neg h_3] at hJ); (repeat rw [if_pos h_5] at hJ); (repeat rw [if_pos h_6] at hJ)
            first | exact hJ ls (lv_sub hl [0, 1, 2, 3, 4] rfl) | ((repeat rw [if_neg h_3] at hl); (repeat rw [if_pos h_5] at hl); (repeat rw [if_pos h_6] at hl); (repeat rw [if_neg h_3]); (repeat rw [if_pos h_5]); (repeat rw [if_pos h_6]); exact hJ ls (lv_sub hl [0, 1, 2, 3, 4] rfl))
theorem i_X4_ruleOf_X4 : ∀ w ∈ wsX40, w ∈ wsX4_ruleOf := fun _ h => List.mem_cons_of_mem _ (List.mem_append_left _ (List.mem_append_left _ (List.mem_append_right _ h)))
theorem k_X4_ruleOf_fieldLink_47 : Cond.fieldLink RX4 47 "SameWater$World" "lawCount" "I" ∈ wsX4_ruleOf := by decide +kernel
theorem kd_X4_hasAnswered : yX4_hasAnswered.cls = RX4 ∧ yX4_hasAnswered.cls ≠ "java/lang/invoke/MethodHandle" ∧ yX4_hasAnswered.cls ≠ "java/lang/invoke/VarHandle" ∧ (parseMethodDescriptor yX4_hasAnswered.desc).map (fun d => d.parameters.length) = some 1 := by decide +kernel
theorem kd_X4_rightOf : yX4_rightOf.cls = RX4 ∧ yX4_rightOf.cls ≠ "java/lang/invoke/MethodHandle" ∧ yX4_rightOf.cls ≠ "java/lang/invoke/VarHandle" ∧ (parseMethodDescriptor yX4_rightOf.desc).map (fun d => d.parameters.length) = some 2 := by decide +kernel
def w_ruleIt_st (wd : WT) (child : Int32) (k : Nat) (bs : Int32) (mo : Int32) : Int32 × Int32 := (if (w_rightOf wd (nI k) child) ≤ mo then bs else nI k, if (w_rightOf wd (nI k) child) ≤ mo then mo else w_rightOf wd (nI k) child)
def w_ruleIt (wd : WT) (child : Int32) (bs0 : Int32) (mo0 : Int32) : Nat → Int32 × Int32
  | 0 => (bs0, mo0)
  | k + 1 => w_ruleIt_st wd child k ((w_ruleIt wd child bs0 mo0 k).1) ((w_ruleIt wd child bs0 mo0 k).2)
def w_ruleOf (wd : WT) (child : Int32) : Int32 := if (w_hasAnswered wd child) = true then (w_ruleIt wd child (-5) (-1) (wLc wd)).1 else (-5)
set_option maxHeartbeats 4000000 in
set_option maxRecDepth 100000 in
theorem c_X4_ruleOf (l : Launch) (G : GG) (ad : Nat → Nat) (wd : WT) (child : Int32)  : Met l yX4_ruleOf wsX4_ruleOf { frames := 6, cells := 0, slots := 0, locals := 164 } (roP G [.ref (ad 0), .int child] (fun H => WAt G ad wd H)) (roQ (some (.int (w_ruleOf wd child)))) 0 0 nF := by
  refine Met.ofW (cc := cX4_ruleOf) (maxL := 6) (ret := (some .int)) (by decide) rfl ?_
  intro p e s m args below meth c s₁ Bd hml hv
  obtain ⟨rfl, hK, hB⟩ := hv
  have hx := Bd.exec
  have hb := Bd.bytes
  have hr := Bd.returns
  have hts := atoms_spec (ws := wsX4_ruleOf) Bd.pre
  have hown : s.vm.findClass RX4 = some m.cls := findClass_of_methodNamed Bd.named
  have hlocks := Bd.notSynchronized
  have hC : CallFix p m c cX4_ruleOf 6 s _ wsX4_ruleOf RX4 := ⟨hx, hb, hml, hown, hts⟩
  have hl := lv_entry ([.ref (ad 0), .int child]) (n := 6) (Nat.le_of_ble_eq_true rfl)
  rw [lg_entry_eq]
  generalize (lg_sl ([.ref (ad 0), .int child]) ++ List.replicate (6 - (lg_sl ([.ref (ad 0), .int child])).length) Slot.unset).toArray = ls at hl ⊢
  have hl : lv_has ls 6 [(0, .ref (ad 0)), (1, .int child)] := hl
  have hW := hB
  obtain ⟨f_o, f_ch, f_as, f_an, f_tp, ⟨qf, f_q, hqf⟩, f_lw, hlc⟩ := hB
  refine lv_aload_n hx hb dX4_ruleOf_0 rfl (lv_at hl 0 rfl) ?_
  refine lv_iload_n hx hb dX4_ruleOf_1 rfl (lv_at hl 1 rfl) ?_
  refine ro_call (va_runV (As := [.int child]) (rest := []) hC (c_X4_hasAnswered l G ad wd child) (cwV 1 hts gX4_ruleOf_X4_hasAnswered rfl rfl rfl kd_X4_hasAnswered ⟨Nat.le_of_ble_eq_true rfl, Nat.le_of_ble_eq_true rfl⟩) (ro_preV hK f_o rfl hW) rfl rfl hl.1 rfl (lv_room (Nat.le_of_ble_eq_true rfl)) dX4_ruleOf_2 ⟨Nat.zero_le _, Nat.zero_le _⟩) ?_
  refine bz_ne (tgt := 11) hx hb dX4_ruleOf_5 (by decide) (fun h_1 => ?_) (fun h_1 => ?_)
  · refine lv_bipush (v := (-5)) hx hb dX4_ruleOf_11 (by decide +kernel) ?_
    refine lv_istore_n (lv' := [(2, .int (-5)), (0, .ref (ad 0)), (1, .int child)]) hx hb dX4_ruleOf_13 rfl hl (by decide) rfl (fun ls hl => ?_)
    refine lv_iconst (v := (-1)) hx hb dX4_ruleOf_14 (by decide) ?_
    refine lv_istore_n (lv' := [(3, .int (-1)), (2, .int (-5)), (0, .ref (ad 0)), (1, .int child)]) hx hb dX4_ruleOf_15 rfl hl (by decide) rfl (fun ls hl => ?_)
    refine lv_iconst (v := 0) hx hb dX4_ruleOf_16 (by decide) ?_
    refine lv_istore (lv' := [(4, .int 0), (3, .int (-1)), (2, .int (-5)), (0, .ref (ad 0)), (1, .int child)]) hx hb dX4_ruleOf_17 hl (by decide) rfl (fun ls hl => ?_)
    refine loop_at (nL := 6) (fun k : Nat => [(0, .ref (ad 0)), (1, .int child), (2, .int ((w_ruleIt wd child (-5) (-1) k).1)), (3, .int ((w_ruleIt wd child (-5) (-1) k).2)), (4, .int (nI k))]) (fun k => k ≤ (wLc wd)) (fun k => (wLc wd) - k) 0 (Nat.zero_le _) (lv_sub hl [3, 4, 2, 1, 0] rfl) (fun k hk_k ih_k ls hl => ?_)
    have hl : lv_has ls 6 [(0, .ref (ad 0)), (1, .int child), (2, .int ((w_ruleIt wd child (-5) (-1) k).1)), (3, .int ((w_ruleIt wd child (-5) (-1) k).2)), (4, .int (nI k))] := hl
    refine lv_iload hx hb dX4_ruleOf_19 (lv_at hl 4 rfl) ?_
    refine lv_aload_n hx hb dX4_ruleOf_21 rfl (lv_at hl 0 rfl) ?_
    refine r_get (C := RX4) (T := TX4) (N := 6) hx hb hts i_X4_ruleOf_X4 hown hK f_o rfl 5 (by decide) k_X4_ruleOf_fieldLink_47 rfl rfl dX4_ruleOf_22 ?_
    refine lv_icmp_ge (tgt := 55) hx hb dX4_ruleOf_25 (by decide) (fun h_2 => ?_) (fun h_2 => ?_)
    · have hN_k : k = (wLc wd) := ge_ex (N := (wLc wd)) rfl h_2 hk_k (by omega)
      subst hN_k
      refine lv_iload_n hx hb dX4_ruleOf_55 rfl (lv_at hl 2 rfl) ?_
      exact ro_iret hx hb hr hlocks dX4_ruleOf_56 (by (try unfold w_ruleOf); (repeat rw [if_pos h_1]); first | done | rfl)
    · have hlt_k : k < (wLc wd) := ge_in (N := (wLc wd)) rfl h_2 hk_k (by omega)
      refine lv_aload_n hx hb dX4_ruleOf_28 rfl (lv_at hl 0 rfl) ?_
      refine lv_iload hx hb dX4_ruleOf_29 (lv_at hl 4 rfl) ?_
      refine lv_iload_n hx hb dX4_ruleOf_31 rfl (lv_at hl 1 rfl) ?_
      refine ro_call (va_runV (As := [.int (nI k), .int child]) (rest := []) hC (c_X4_rightOf l G ad wd (nI k) child) (cwV 2 hts gX4_ruleOf_X4_rightOf rfl rfl rfl kd_X4_rightOf ⟨Nat.le_of_ble_eq_true rfl, Nat.le_of_ble_eq_true rfl⟩) (ro_preV hK f_o rfl hW) rfl rfl hl.1 rfl (lv_room (Nat.le_of_ble_eq_true rfl)) dX4_ruleOf_32 ⟨Nat.zero_le _, Nat.zero_le _⟩) ?_
      refine lv_istore (lv' := [(5, .int (w_rightOf wd (nI k) child)), (0, .ref (ad 0)), (1, .int child), (2, .int ((w_ruleIt wd child (-5) (-1) k).1)), (3, .int ((w_ruleIt wd child (-5) (-1) k).2)), (4, .int (nI k))]) hx hb dX4_ruleOf_35 hl (by decide) rfl (fun ls hl => ?_)
      refine lv_iload hx hb dX4_ruleOf_37 (lv_at hl 0 rfl) ?_
      refine lv_iload_n hx hb dX4_ruleOf_39 rfl (lv_at hl 4 rfl) ?_
      refine join_at (nL := 6) 49 [(5, .int (w_rightOf wd (nI k) child)), (0, .ref (ad 0)), (1, .int child), (2, .int (if (w_rightOf wd (nI k) child) ≤ ((w_ruleIt wd child (-5) (-1) k).2) then (w_ruleIt wd child (-5) (-1) k).1 else nI k)), (3, .int (if (w_rightOf wd (nI k) child) ≤ ((w_ruleIt wd child (-5) (-1) k).2) then (w_ruleIt wd child (-5) (-1) k).2 else w_rightOf wd (nI k) child)), (4, .int (nI k))] [] (fun ls hl => ?_) (fun J_3 => ?_)
      · refine lv_iinc (v := (nI k) + 1) (lv' := [(4, .int ((nI k) + 1)), (5, .int (w_rightOf wd (nI k) child)), (0, .ref (ad 0)), (1, .int child), (2, .int (if (w_rightOf wd (nI k) child) ≤ ((w_ruleIt wd child (-5) (-1) k).2) then (w_ruleIt wd child (-5) (-1) k).1 else nI k)), (3, .int (if (w_rightOf wd (nI k) child) ≤ ((w_ruleIt wd child (-5) (-1) k).2) then (w_ruleIt wd child (-5) (-1) k).2 else w_rightOf wd (nI k) child))]) hx hb dX4_ruleOf_49 hl (k := 5) rfl rfl (by decide) rfl (fun ls hl => ?_)
        refine lv_goto (tgt := 19) hx hb dX4_ruleOf_52 (by decide) ?_
        have hE : (w_ruleIt wd child (-5) (-1) (k + 1)) = (if (w_rightOf wd (nI k) child) ≤ ((w_ruleIt wd child (-5) (-1) k).2) then (w_ruleIt wd child (-5) (-1) k).1 else nI k, if (w_rightOf wd (nI k) child) ≤ ((w_ruleIt wd child (-5) (-1) k).2) then (w_ruleIt wd child (-5) (-1) k).2 else w_rightOf wd (nI k) child) := (by show w_ruleIt_st wd child k ((w_ruleIt wd child (-5) (-1) k).1) ((w_ruleIt wd child (-5) (-1) k).2) = _; (try unfold w_ruleIt_st); first | done | rfl)
        refine ih_k (k + 1) (show k + 1 ≤ (wLc wd) by omega) (by omega) ls ?_
        show lv_has ls 6 [(0, .ref (ad 0)), (1, .int child), (2, .int ((w_ruleIt wd child (-5) (-1) (k + 1)).1)), (3, .int ((w_ruleIt wd child (-5) (-1) (k + 1)).2)), (4, .int (nI (k + 1)))]
        rw [nI_succ, hE]
        exact lv_sub hl [2, 3, 4, 5, 0] rfl
      · refine lv_icmp_le (tgt := 49) hx hb dX4_ruleOf_40 (by decide) (fun h_4 => ?_) (fun h_4 => ?_)
        · have hJ := J_3; (repeat rw [if_pos h_4] at hJ)
          first | exact hJ ls (lv_sub hl [0, 1, 2, 3, 4, 5] rfl) | ((repeat rw [if_pos h_4] at hl); (repeat rw [if_pos h_4]); exact hJ ls (lv_sub hl [0, 1, 2, 3, 4, 5] rfl))
        · refine lv_iload hx hb dX4_ruleOf_43 (lv_at hl 0 rfl) ?_
          refine lv_istore_n (lv' := [(3, .int (w_rightOf wd (nI k) child)), (5, .int (w_rightOf wd (nI k) child)), (0, .ref (ad 0)), (1, .int child), (2, .int ((w_ruleIt wd child (-5) (-1) k).1)), (4, .int (nI k))]) hx hb dX4_ruleOf_45 rfl hl (by decide) rfl (fun ls hl => ?_)
          refine lv_iload hx hb dX4_ruleOf_46 (lv_at hl 5 rfl) ?_
          refine lv_istore_n (lv' := [(2, .int (nI k)), (3, .int (w_rightOf wd (nI k) child)), (5, .int (w_rightOf wd (nI k) child)), (0, .ref (ad 0)), (1, .int child), (4, .int (nI k))]) hx hb dX4_ruleOf_48 rfl hl (by decide) rfl (fun ls hl => ?_)
          have hJ := J_3; (repeat rw [if_neg h_4] at hJ)
          first | exact hJ ls (lv_sub hl [2, 3, 4, 0, 1, 5] rfl) | ((repeat rw [if_neg h_4] at hl); (repeat rw [if_neg h_4]); exact hJ ls (lv_sub hl [2, 3, 4, 0, 1, 5] rfl))
  · refine lv_bipush (v := (-5)) hx hb dX4_ruleOf_8 (by decide +kernel) ?_
    exact ro_iret hx hb hr hlocks dX4_ruleOf_10 (by (try unfold w_ruleOf); (repeat rw [if_neg h_1]); first | done | rfl)
theorem i_X4_partings_X4 : ∀ w ∈ wsX40, w ∈ wsX4_partings := fun _ h => List.mem_cons_of_mem _ (List.mem_append_left _ (List.mem_append_left _ (List.mem_append_right _ h)))
theorem k_X4_partings_fieldLink_14 : Cond.fieldLink RX4 14 "SameWater$World" "children" "LSameWater$Rows;" ∈ wsX4_partings := by decide +kernel
theorem i_X4_partings_X2 : ∀ w ∈ wsX20, w ∈ wsX4_partings := fun _ h => List.mem_cons_of_mem _ (List.mem_append_left _ (List.mem_append_right _ h))
theorem k_X4_partings_fieldLink_63 : Cond.fieldLink RX4 63 "SameWater$Rows" "size" "I" ∈ wsX4_partings := by decide +kernel
theorem k_X4_partings_fieldLink_20 : Cond.fieldLink RX4 20 "SameWater$World" "askings" "LSameWater$Rows;" ∈ wsX4_partings := by decide +kernel
theorem kd_X4_toldNow : yX4_toldNow.cls = RX4 ∧ yX4_toldNow.cls ≠ "java/lang/invoke/MethodHandle" ∧ yX4_toldNow.cls ≠ "java/lang/invoke/VarHandle" ∧ (parseMethodDescriptor yX4_toldNow.desc).map (fun d => d.parameters.length) = some 3 := by decide +kernel
def w_partIn_st (wd : WT) (law other : Int32) (k1 : Nat) (k2 : Nat) (p2 : Int32) : Int32 := if (w_toldNow wd law (nI k1) (nI k2)) = (w_toldNow wd other (nI k1) (nI k2)) then p2 else p2 + 1
def w_partIn (wd : WT) (law other : Int32) (k1 : Nat) (p20 : Int32) : Nat → Int32
  | 0 => p20
  | k2 + 1 => w_partIn_st wd law other k1 k2 (w_partIn wd law other k1 p20 k2)
def w_partOut_st (wd : WT) (law other : Int32) (k1 : Nat) (p1 : Int32) : Int32 := (w_partIn wd law other k1 p1 ((wAs wd).1))
def w_partOut (wd : WT) (law other : Int32) (p10 : Int32) : Nat → Int32
  | 0 => p10
  | k1 + 1 => w_partOut_st wd law other k1 (w_partOut wd law other p10 k1)
def w_partings (wd : WT) (law : Int32) (other : Int32) : Int32 := (w_partOut wd law other 0 ((wCh wd).1))
set_option maxHeartbeats 4000000 in
set_option maxRecDepth 100000 in
theorem c_X4_partings (l : Launch) (G : GG) (ad : Nat → Nat) (wd : WT) (law : Int32) (other : Int32)  : Met l yX4_partings wsX4_partings { frames := 5, cells := 0, slots := 0, locals := 140 } (roP G [.ref (ad 0), .int law, .int other] (fun H => WAt G ad wd H)) (roQ (some (.int (w_partings wd law other)))) 0 0 nF := by
  refine Met.ofW (cc := cX4_partings) (maxL := 6) (ret := (some .int)) (by decide) rfl ?_
  intro p e s m args below meth c s₁ Bd hml hv
  obtain ⟨rfl, hK, hB⟩ := hv
  have hx := Bd.exec
  have hb := Bd.bytes
  have hr := Bd.returns
  have hts := atoms_spec (ws := wsX4_partings) Bd.pre
  have hown : s.vm.findClass RX4 = some m.cls := findClass_of_methodNamed Bd.named
  have hlocks := Bd.notSynchronized
  have hC : CallFix p m c cX4_partings 6 s _ wsX4_partings RX4 := ⟨hx, hb, hml, hown, hts⟩
  have hl := lv_entry ([.ref (ad 0), .int law, .int other]) (n := 6) (Nat.le_of_ble_eq_true rfl)
  rw [lg_entry_eq]
  generalize (lg_sl ([.ref (ad 0), .int law, .int other]) ++ List.replicate (6 - (lg_sl ([.ref (ad 0), .int law, .int other])).length) Slot.unset).toArray = ls at hl ⊢
  have hl : lv_has ls 6 [(0, .ref (ad 0)), (1, .int law), (2, .int other)] := hl
  have hW := hB
  obtain ⟨f_o, f_ch, f_as, f_an, f_tp, ⟨qf, f_q, hqf⟩, f_lw, hlc⟩ := hB
  refine lv_iconst (v := 0) hx hb dX4_partings_0 (by decide) ?_
  refine lv_istore_n (lv' := [(3, .int 0), (0, .ref (ad 0)), (1, .int law), (2, .int other)]) hx hb dX4_partings_1 rfl hl (by decide) rfl (fun ls hl => ?_)
  refine lv_iconst (v := 0) hx hb dX4_partings_2 (by decide) ?_
  refine lv_istore (lv' := [(4, .int 0), (3, .int 0), (0, .ref (ad 0)), (1, .int law), (2, .int other)]) hx hb dX4_partings_3 hl (by decide) rfl (fun ls hl => ?_)
  refine loop_at (nL := 6) (fun k1 : Nat => [(0, .ref (ad 0)), (1, .int law), (2, .int other), (3, .int (w_partOut wd law other 0 k1)), (4, .int (nI k1))]) (fun k1 => k1 ≤ (wCh wd).1) (fun k1 => (wCh wd).1 - k1) 0 (Nat.zero_le _) (lv_sub hl [2, 3, 4, 1, 0] rfl) (fun k1 hk_k1 ih_k1 ls hl => ?_)
  have hl : lv_has ls 6 [(0, .ref (ad 0)), (1, .int law), (2, .int other), (3, .int (w_partOut wd law other 0 k1)), (4, .int (nI k1))] := hl
  refine lv_iload hx hb dX4_partings_5 (lv_at hl 4 rfl) ?_
  refine lv_aload_n hx hb dX4_partings_7 rfl (lv_at hl 0 rfl) ?_
  refine r_get (C := RX4) (T := TX4) (N := 6) hx hb hts i_X4_partings_X4 hown hK f_o rfl 0 (by decide) k_X4_partings_fieldLink_14 rfl rfl dX4_partings_8 ?_
  refine r_get (C := RX2) (T := TX2) (N := 4) hx hb hts i_X4_partings_X2 hown hK f_ch.1 rfl 3 (by decide) k_X4_partings_fieldLink_63 rfl rfl dX4_partings_11 ?_
  refine lv_icmp_ge (tgt := 68) hx hb dX4_partings_14 (by decide) (fun h_1 => ?_) (fun h_1 => ?_)
  · have hN_k1 : k1 = (wCh wd).1 := ge_ex (N := (wCh wd).1) rfl h_1 hk_k1 (by have := f_ch.2.2.1; omega)
    subst hN_k1
    refine lv_iload_n hx hb dX4_partings_68 rfl (lv_at hl 3 rfl) ?_
    exact ro_iret hx hb hr hlocks dX4_partings_69 rfl
  · have hlt_k1 : k1 < (wCh wd).1 := ge_in (N := (wCh wd).1) rfl h_1 hk_k1 (by have := f_ch.2.2.1; omega)
    refine lv_iconst (v := 0) hx hb dX4_partings_17 (by decide) ?_
    refine lv_istore (lv' := [(5, .int 0), (0, .ref (ad 0)), (1, .int law), (2, .int other), (3, .int (w_partOut wd law other 0 k1)), (4, .int (nI k1))]) hx hb dX4_partings_18 hl (by decide) rfl (fun ls hl => ?_)
    refine loop_at (nL := 6) (fun k2 : Nat => [(0, .ref (ad 0)), (1, .int law), (2, .int other), (3, .int (w_partIn wd law other k1 (w_partOut wd law other 0 k1) k2)), (4, .int (nI k1)), (5, .int (nI k2))]) (fun k2 => k2 ≤ (wAs wd).1) (fun k2 => (wAs wd).1 - k2) 0 (Nat.zero_le _) (lv_sub hl [1, 2, 3, 4, 5, 0] rfl) (fun k2 hk_k2 ih_k2 ls hl => ?_)
    have hl : lv_has ls 6 [(0, .ref (ad 0)), (1, .int law), (2, .int other), (3, .int (w_partIn wd law other k1 (w_partOut wd law other 0 k1) k2)), (4, .int (nI k1)), (5, .int (nI k2))] := hl
    refine lv_iload hx hb dX4_partings_20 (lv_at hl 5 rfl) ?_
    refine lv_aload_n hx hb dX4_partings_22 rfl (lv_at hl 0 rfl) ?_
    refine r_get (C := RX4) (T := TX4) (N := 6) hx hb hts i_X4_partings_X4 hown hK f_o rfl 1 (by decide) k_X4_partings_fieldLink_20 rfl rfl dX4_partings_23 ?_
    refine r_get (C := RX2) (T := TX2) (N := 4) hx hb hts i_X4_partings_X2 hown hK f_as.1 rfl 3 (by decide) k_X4_partings_fieldLink_63 rfl rfl dX4_partings_26 ?_
    refine lv_icmp_ge (tgt := 62) hx hb dX4_partings_29 (by decide) (fun h_2 => ?_) (fun h_2 => ?_)
    · have hN_k2 : k2 = (wAs wd).1 := ge_ex (N := (wAs wd).1) rfl h_2 hk_k2 (by have := f_as.2.2.1; omega)
      subst hN_k2
      refine lv_iinc (v := (nI k1) + 1) (lv' := [(4, .int ((nI k1) + 1)), (0, .ref (ad 0)), (1, .int law), (2, .int other), (3, .int (w_partIn wd law other k1 (w_partOut wd law other 0 k1) ((wAs wd).1))), (5, .int (nI ((wAs wd).1)))]) hx hb dX4_partings_62 hl (k := 4) rfl rfl (by decide) rfl (fun ls hl => ?_)
      refine lv_goto (tgt := 5) hx hb dX4_partings_65 (by decide) ?_
      have hE : (w_partOut wd law other 0 (k1 + 1)) = (w_partIn wd law other k1 (w_partOut wd law other 0 k1) ((wAs wd).1)) := (by show w_partOut_st wd law other k1 (w_partOut wd law other 0 k1) = _; (try unfold w_partOut_st); first | done | rfl)
      refine ih_k1 (k1 + 1) (show k1 + 1 ≤ (wCh wd).1 by omega) (by omega) ls ?_
      show lv_has ls 6 [(0, .ref (ad 0)), (1, .int law), (2, .int other), (3, .int (w_partOut wd law other 0 (k1 + 1))), (4, .int (nI (k1 + 1)))]
      rw [nI_succ, hE]
      exact lv_sub hl [1, 2, 3, 4, 0] rfl
    · have hlt_k2 : k2 < (wAs wd).1 := ge_in (N := (wAs wd).1) rfl h_2 hk_k2 (by have := f_as.2.2.1; omega)
      refine lv_aload_n hx hb dX4_partings_32 rfl (lv_at hl 0 rfl) ?_
      refine lv_iload_n hx hb dX4_partings_33 rfl (lv_at hl 1 rfl) ?_
      refine lv_iload hx hb dX4_partings_34 (lv_at hl 4 rfl) ?_
      refine lv_iload hx hb dX4_partings_36 (lv_at hl 5 rfl) ?_
      refine ro_call (va_runV (As := [.int law, .int (nI k1), .int (nI k2)]) (rest := []) hC (c_X4_toldNow l G ad wd law (nI k1) (nI k2)) (cwV 3 hts gX4_partings_X4_toldNow rfl rfl rfl kd_X4_toldNow ⟨Nat.le_of_ble_eq_true rfl, Nat.le_of_ble_eq_true rfl⟩) (ro_preV hK f_o rfl hW) rfl rfl hl.1 rfl (lv_room (Nat.le_of_ble_eq_true rfl)) dX4_partings_38 ⟨Nat.zero_le _, Nat.zero_le _⟩) ?_
      refine lv_aload_n hx hb dX4_partings_41 rfl (lv_at hl 0 rfl) ?_
      refine lv_iload_n hx hb dX4_partings_42 rfl (lv_at hl 2 rfl) ?_
      refine lv_iload hx hb dX4_partings_43 (lv_at hl 4 rfl) ?_
      refine lv_iload hx hb dX4_partings_45 (lv_at hl 5 rfl) ?_
      refine ro_call (va_runV (As := [.int other, .int (nI k1), .int (nI k2)]) (rest := [.int (w_toldNow wd law (nI k1) (nI k2))]) hC (c_X4_toldNow l G ad wd other (nI k1) (nI k2)) (cwV 3 hts gX4_partings_X4_toldNow rfl rfl rfl kd_X4_toldNow ⟨Nat.le_of_ble_eq_true rfl, Nat.le_of_ble_eq_true rfl⟩) (ro_preV hK f_o rfl hW) rfl rfl hl.1 rfl (lv_room (Nat.le_of_ble_eq_true rfl)) dX4_partings_47 ⟨Nat.zero_le _, Nat.zero_le _⟩) ?_
      refine join_at (nL := 6) 56 [(0, .ref (ad 0)), (1, .int law), (2, .int other), (3, .int (if (w_toldNow wd law (nI k1) (nI k2)) = (w_toldNow wd other (nI k1) (nI k2)) then (w_partIn wd law other k1 (w_partOut wd law other 0 k1) k2) else (w_partIn wd law other k1 (w_partOut wd law other 0 k1) k2) + 1)), (4, .int (nI k1)), (5, .int (nI k2))] [] (fun ls hl => ?_) (fun J_3 => ?_)
      · refine lv_iinc (v := (nI k2) + 1) (lv' := [(5, .int ((nI k2) + 1)), (0, .ref (ad 0)), (1, .int law), (2, .int other), (3, .int (if (w_toldNow wd law (nI k1) (nI k2)) = (w_toldNow wd other (nI k1) (nI k2)) then (w_partIn wd law other k1 (w_partOut wd law other 0 k1) k2) else (w_partIn wd law other k1 (w_partOut wd law other 0 k1) k2) + 1)), (4, .int (nI k1))]) hx hb dX4_partings_56 hl (k := 5) rfl rfl (by decide) rfl (fun ls hl => ?_)
        refine lv_goto (tgt := 20) hx hb dX4_partings_59 (by decide) ?_
        have hE : (w_partIn wd law other k1 (w_partOut wd law other 0 k1) (k2 + 1)) = if (w_toldNow wd law (nI k1) (nI k2)) = (w_toldNow wd other (nI k1) (nI k2)) then (w_partIn wd law other k1 (w_partOut wd law other 0 k1) k2) else (w_partIn wd law other k1 (w_partOut wd law other 0 k1) k2) + 1 := (by show w_partIn_st wd law other k1 k2 (w_partIn wd law other k1 (w_partOut wd law other 0 k1) k2) = _; (try unfold w_partIn_st); first | done | rfl)
        refine ih_k2 (k2 + 1) (show k2 + 1 ≤ (wAs wd).1 by omega) (by omega) ls ?_
        show lv_has ls 6 [(0, .ref (ad 0)), (1, .int law), (2, .int other), (3, .int (w_partIn wd law other k1 (w_partOut wd law other 0 k1) (k2 + 1))), (4, .int (nI k1)), (5, .int (nI (k2 + 1)))]
        rw [nI_succ, hE]
        exact lv_sub hl [1, 2, 3, 4, 5, 0] rfl
      · refine lv_icmp_eq (tgt := 56) hx hb dX4_partings_50 (by decide) (fun h_4 => ?_) (fun h_4 => ?_)
        · have hJ := J_3; (repeat rw [if_pos h_4] at hJ)
          first | exact hJ ls (lv_sub hl [0, 1, 2, 3, 4, 5] rfl) | ((repeat rw [if_pos h_4] at hl); (repeat rw [if_pos h_4]); exact hJ ls (lv_sub hl [0, 1, 2, 3, 4, 5] rfl))
        · refine lv_iinc (v := (w_partIn wd law other k1 (w_partOut wd law other 0 k1) k2) + 1) (lv' := [(3, .int ((w_partIn wd law other k1 (w_partOut wd law other 0 k1) k2) + 1)), (0, .ref (ad 0)), (1, .int law), (2, .int other), (4, .int (nI k1)), (5, .int (nI k2))]) hx hb dX4_partings_53 hl (k := 3) rfl rfl (by decide) rfl (fun ls hl => ?_)
          have hJ := J_3; (repeat rw [if_neg h_4] at hJ)
          first | exact hJ ls (lv_sub hl [1, 2, 3, 0, 4, 5] rfl) | ((repeat rw [if_neg h_4] at hl); (repeat rw [if_neg h_4]); exact hJ ls (lv_sub hl [1, 2, 3, 0, 4, 5] rfl))
theorem i_X4_greatestHeap_X4 : ∀ w ∈ wsX40, w ∈ wsX4_greatestHeap := fun _ h => List.mem_cons_of_mem _ (List.mem_append_left _ (List.mem_append_left _ (List.mem_append_right _ h)))
theorem k_X4_greatestHeap_fieldLink_47 : Cond.fieldLink RX4 47 "SameWater$World" "lawCount" "I" ∈ wsX4_greatestHeap := by decide +kernel
theorem k_X4_greatestHeap_methodLink_114 : Cond.methodLink RX4 114 Lib.Math.max.name ∈ wsX4_greatestHeap := by decide +kernel
theorem k_X4_greatestHeap_mst_114 : Cond.static Lib.Math.max.name ∈ wsX4_greatestHeap := by decide +kernel
theorem k_X4_greatestHeap_min_114 : Cond.initialized "java/lang/Math" ∈ wsX4_greatestHeap := by decide +kernel
theorem k_X4_greatestHeap_mco_114 : Cond.code Lib.Math.max.name Lib.Math.max.code 2 (some .int) ∈ wsX4_greatestHeap := by decide +kernel
def w_heapIt_st (wd : WT) (child asking : Int32) (k : Nat) (le0 : Int32) (sa0 : Int32) (mo0 : Int32) : Int32 × Int32 × Int32 := (if (w_toldNow wd (nI k) child asking) = 0 then le0 + 1 else le0, if (w_toldNow wd (nI k) child asking) = 0 then sa0 else if (w_toldNow wd (nI k) child asking) = 1 then sa0 + 1 else sa0, if (w_toldNow wd (nI k) child asking) = 0 then mo0 else if (w_toldNow wd (nI k) child asking) = 1 then mo0 else mo0 + 1)
def w_heapIt (wd : WT) (child asking : Int32) (le00 : Int32) (sa00 : Int32) (mo00 : Int32) : Nat → Int32 × Int32 × Int32
  | 0 => (le00, sa00, mo00)
  | k + 1 => w_heapIt_st wd child asking k ((w_heapIt wd child asking le00 sa00 mo00 k).1) ((w_heapIt wd child asking le00 sa00 mo00 k).2.1) ((w_heapIt wd child asking le00 sa00 mo00 k).2.2)
def w_greatestHeap (wd : WT) (child : Int32) (asking : Int32) : Int32 := if ((w_heapIt wd child asking 0 0 0 (wLc wd)).1) < (if ((w_heapIt wd child asking 0 0 0 (wLc wd)).2.1) < ((w_heapIt wd child asking 0 0 0 (wLc wd)).2.2) then ((w_heapIt wd child asking 0 0 0 (wLc wd)).2.2) else ((w_heapIt wd child asking 0 0 0 (wLc wd)).2.1)) then (if ((w_heapIt wd child asking 0 0 0 (wLc wd)).2.1) < ((w_heapIt wd child asking 0 0 0 (wLc wd)).2.2) then ((w_heapIt wd child asking 0 0 0 (wLc wd)).2.2) else ((w_heapIt wd child asking 0 0 0 (wLc wd)).2.1)) else ((w_heapIt wd child asking 0 0 0 (wLc wd)).1)
set_option maxHeartbeats 4000000 in
set_option maxRecDepth 100000 in
theorem c_X4_greatestHeap (l : Launch) (G : GG) (ad : Nat → Nat) (wd : WT) (child : Int32) (asking : Int32)  : Met l yX4_greatestHeap wsX4_greatestHeap { frames := 5, cells := 0, slots := 0, locals := 140 } (roP G [.ref (ad 0), .int child, .int asking] (fun H => WAt G ad wd H)) (roQ (some (.int (w_greatestHeap wd child asking)))) 0 0 nF := by
  refine Met.ofW (cc := cX4_greatestHeap) (maxL := 8) (ret := (some .int)) (by decide) rfl ?_
  intro p e s m args below meth c s₁ Bd hml hv
  obtain ⟨rfl, hK, hB⟩ := hv
  have hx := Bd.exec
  have hb := Bd.bytes
  have hr := Bd.returns
  have hts := atoms_spec (ws := wsX4_greatestHeap) Bd.pre
  have hown : s.vm.findClass RX4 = some m.cls := findClass_of_methodNamed Bd.named
  have hlocks := Bd.notSynchronized
  have hC : CallFix p m c cX4_greatestHeap 8 s _ wsX4_greatestHeap RX4 := ⟨hx, hb, hml, hown, hts⟩
  have hl := lv_entry ([.ref (ad 0), .int child, .int asking]) (n := 8) (Nat.le_of_ble_eq_true rfl)
  rw [lg_entry_eq]
  generalize (lg_sl ([.ref (ad 0), .int child, .int asking]) ++ List.replicate (8 - (lg_sl ([.ref (ad 0), .int child, .int asking])).length) Slot.unset).toArray = ls at hl ⊢
  have hl : lv_has ls 8 [(0, .ref (ad 0)), (1, .int child), (2, .int asking)] := hl
  have hW := hB
  obtain ⟨f_o, f_ch, f_as, f_an, f_tp, ⟨qf, f_q, hqf⟩, f_lw, hlc⟩ := hB
  refine lv_iconst (v := 0) hx hb dX4_greatestHeap_0 (by decide) ?_
  refine lv_istore_n (lv' := [(3, .int 0), (0, .ref (ad 0)), (1, .int child), (2, .int asking)]) hx hb dX4_greatestHeap_1 rfl hl (by decide) rfl (fun ls hl => ?_)
  refine lv_iconst (v := 0) hx hb dX4_greatestHeap_2 (by decide) ?_
  refine lv_istore (lv' := [(4, .int 0), (3, .int 0), (0, .ref (ad 0)), (1, .int child), (2, .int asking)]) hx hb dX4_greatestHeap_3 hl (by decide) rfl (fun ls hl => ?_)
  refine lv_iconst (v := 0) hx hb dX4_greatestHeap_5 (by decide) ?_
  refine lv_istore (lv' := [(5, .int 0), (4, .int 0), (3, .int 0), (0, .ref (ad 0)), (1, .int child), (2, .int asking)]) hx hb dX4_greatestHeap_6 hl (by decide) rfl (fun ls hl => ?_)
  refine lv_iconst (v := 0) hx hb dX4_greatestHeap_8 (by decide) ?_
  refine lv_istore (lv' := [(6, .int 0), (5, .int 0), (4, .int 0), (3, .int 0), (0, .ref (ad 0)), (1, .int child), (2, .int asking)]) hx hb dX4_greatestHeap_9 hl (by decide) rfl (fun ls hl => ?_)
  refine loop_at (nL := 8) (fun k : Nat => [(0, .ref (ad 0)), (1, .int child), (2, .int asking), (3, .int ((w_heapIt wd child asking 0 0 0 k).1)), (4, .int ((w_heapIt wd child asking 0 0 0 k).2.1)), (5, .int ((w_heapIt wd child asking 0 0 0 k).2.2)), (6, .int (nI k))]) (fun k => k ≤ (wLc wd)) (fun k => (wLc wd) - k) 0 (Nat.zero_le _) (lv_sub hl [4, 5, 6, 3, 2, 1, 0] rfl) (fun k hk_k ih_k ls hl => ?_)
  have hl : lv_has ls 8 [(0, .ref (ad 0)), (1, .int child), (2, .int asking), (3, .int ((w_heapIt wd child asking 0 0 0 k).1)), (4, .int ((w_heapIt wd child asking 0 0 0 k).2.1)), (5, .int ((w_heapIt wd child asking 0 0 0 k).2.2)), (6, .int (nI k))] := hl
  refine lv_iload hx hb dX4_greatestHeap_11 (lv_at hl 6 rfl) ?_
  refine lv_aload_n hx hb dX4_greatestHeap_13 rfl (lv_at hl 0 rfl) ?_
  refine r_get (C := RX4) (T := TX4) (N := 6) hx hb hts i_X4_greatestHeap_X4 hown hK f_o rfl 5 (by decide) k_X4_greatestHeap_fieldLink_47 rfl rfl dX4_greatestHeap_14 ?_
  refine lv_icmp_ge (tgt := 62) hx hb dX4_greatestHeap_17 (by decide) (fun h_1 => ?_) (fun h_1 => ?_)
  · have hN_k : k = (wLc wd) := ge_ex (N := (wLc wd)) rfl h_1 hk_k (by omega)
    subst hN_k
    refine lv_iload_n hx hb dX4_greatestHeap_62 rfl (lv_at hl 3 rfl) ?_
    refine lv_iload hx hb dX4_greatestHeap_63 (lv_at hl 4 rfl) ?_
    refine lv_iload hx hb dX4_greatestHeap_65 (lv_at hl 5 rfl) ?_
    refine va_mmax hx hb (hml.trans hl.1.symm) hown (hts _ k_X4_greatestHeap_methodLink_114) (hts _ k_X4_greatestHeap_mst_114) (hts _ k_X4_greatestHeap_min_114) (hts _ k_X4_greatestHeap_mco_114) (Nat.le_of_ble_eq_true rfl) (Nat.le_of_ble_eq_true rfl) (Nat.zero_le _) (Nat.zero_le _) dX4_greatestHeap_67 ?_
    refine va_mmax hx hb (hml.trans hl.1.symm) hown (hts _ k_X4_greatestHeap_methodLink_114) (hts _ k_X4_greatestHeap_mst_114) (hts _ k_X4_greatestHeap_min_114) (hts _ k_X4_greatestHeap_mco_114) (Nat.le_of_ble_eq_true rfl) (Nat.le_of_ble_eq_true rfl) (Nat.zero_le _) (Nat.zero_le _) dX4_greatestHeap_70 ?_
    exact ro_iret hx hb hr hlocks dX4_greatestHeap_73 rfl
  · have hlt_k : k < (wLc wd) := ge_in (N := (wLc wd)) rfl h_1 hk_k (by omega)
    refine lv_aload_n hx hb dX4_greatestHeap_20 rfl (lv_at hl 0 rfl) ?_
    refine lv_iload hx hb dX4_greatestHeap_21 (lv_at hl 6 rfl) ?_
    refine lv_iload_n hx hb dX4_greatestHeap_23 rfl (lv_at hl 1 rfl) ?_
    refine lv_iload_n hx hb dX4_greatestHeap_24 rfl (lv_at hl 2 rfl) ?_
    refine ro_call (va_runV (As := [.int (nI k), .int child, .int asking]) (rest := []) hC (c_X4_toldNow l G ad wd (nI k) child asking) (cwV 3 hts gX4_greatestHeap_X4_toldNow rfl rfl rfl kd_X4_toldNow ⟨Nat.le_of_ble_eq_true rfl, Nat.le_of_ble_eq_true rfl⟩) (ro_preV hK f_o rfl hW) rfl rfl hl.1 rfl (lv_room (Nat.le_of_ble_eq_true rfl)) dX4_greatestHeap_25 ⟨Nat.zero_le _, Nat.zero_le _⟩) ?_
    refine lv_istore (lv' := [(7, .int (w_toldNow wd (nI k) child asking)), (0, .ref (ad 0)), (1, .int child), (2, .int asking), (3, .int ((w_heapIt wd child asking 0 0 0 k).1)), (4, .int ((w_heapIt wd child asking 0 0 0 k).2.1)), (5, .int ((w_heapIt wd child asking 0 0 0 k).2.2)), (6, .int (nI k))]) hx hb dX4_greatestHeap_28 hl (by decide) rfl (fun ls hl => ?_)
    refine lv_iload hx hb dX4_greatestHeap_30 (lv_at hl 0 rfl) ?_
    refine join_at (nL := 8) 56 [(3, .int (if (w_toldNow wd (nI k) child asking) = 0 then ((w_heapIt wd child asking 0 0 0 k).1) + 1 else (w_heapIt wd child asking 0 0 0 k).1)), (7, .int (w_toldNow wd (nI k) child asking)), (0, .ref (ad 0)), (1, .int child), (2, .int asking), (4, .int (if (w_toldNow wd (nI k) child asking) = 0 then (w_heapIt wd child asking 0 0 0 k).2.1 else if (w_toldNow wd (nI k) child asking) = 1 then ((w_heapIt wd child asking 0 0 0 k).2.1) + 1 else (w_heapIt wd child asking 0 0 0 k).2.1)), (5, .int (if (w_toldNow wd (nI k) child asking) = 0 then (w_heapIt wd child asking 0 0 0 k).2.2 else if (w_toldNow wd (nI k) child asking) = 1 then (w_heapIt wd child asking 0 0 0 k).2.2 else ((w_heapIt wd child asking 0 0 0 k).2.2) + 1)), (6, .int (nI k))] [] (fun ls hl => ?_) (fun J_2 => ?_)
    · refine lv_iinc (v := (nI k) + 1) (lv' := [(6, .int ((nI k) + 1)), (3, .int (if (w_toldNow wd (nI k) child asking) = 0 then ((w_heapIt wd child asking 0 0 0 k).1) + 1 else (w_heapIt wd child asking 0 0 0 k).1)), (7, .int (w_toldNow wd (nI k) child asking)), (0, .ref (ad 0)), (1, .int child), (2, .int asking), (4, .int (if (w_toldNow wd (nI k) child asking) = 0 then (w_heapIt wd child asking 0 0 0 k).2.1 else if (w_toldNow wd (nI k) child asking) = 1 then ((w_heapIt wd child asking 0 0 0 k).2.1) + 1 else (w_heapIt wd child asking 0 0 0 k).2.1)), (5, .int (if (w_toldNow wd (nI k) child asking) = 0 then (w_heapIt wd child asking 0 0 0 k).2.2 else if (w_toldNow wd (nI k) child asking) = 1 then (w_heapIt wd child asking 0 0 0 k).2.2 else ((w_heapIt wd child asking 0 0 0 k).2.2) + 1))]) hx hb dX4_greatestHeap_56 hl (k := 7) rfl rfl (by decide) rfl (fun ls hl => ?_)
      refine lv_goto (tgt := 11) hx hb dX4_greatestHeap_59 (by decide) ?_
      have hE : (w_heapIt wd child asking 0 0 0 (k + 1)) = (if (w_toldNow wd (nI k) child asking) = 0 then ((w_heapIt wd child asking 0 0 0 k).1) + 1 else (w_heapIt wd child asking 0 0 0 k).1, if (w_toldNow wd (nI k) child asking) = 0 then (w_heapIt wd child asking 0 0 0 k).2.1 else if (w_toldNow wd (nI k) child asking) = 1 then ((w_heapIt wd child asking 0 0 0 k).2.1) + 1 else (w_heapIt wd child asking 0 0 0 k).2.1, if (w_toldNow wd (nI k) child asking) = 0 then (w_heapIt wd child asking 0 0 0 k).2.2 else if (w_toldNow wd (nI k) child asking) = 1 then (w_heapIt wd child asking 0 0 0 k).2.2 else ((w_heapIt wd child asking 0 0 0 k).2.2) + 1) := (by show w_heapIt_st wd child asking k ((w_heapIt wd child asking 0 0 0 k).1) ((w_heapIt wd child asking 0 0 0 k).2.1) ((w_heapIt wd child asking 0 0 0 k).2.2) = _; (try unfold w_heapIt_st); first | done | rfl)
      refine ih_k (k + 1) (show k + 1 ≤ (wLc wd) by omega) (by omega) ls ?_
      show lv_has ls 8 [(0, .ref (ad 0)), (1, .int child), (2, .int asking), (3, .int ((w_heapIt wd child asking 0 0 0 (k + 1)).1)), (4, .int ((w_heapIt wd child asking 0 0 0 (k + 1)).2.1)), (5, .int ((w_heapIt wd child asking 0 0 0 (k + 1)).2.2)), (6, .int (nI (k + 1)))]
      rw [nI_succ, hE]
      exact lv_sub hl [3, 4, 5, 1, 6, 7, 0] rfl
    · refine lv_if_ne (tgt := 41) hx hb dX4_greatestHeap_32 (by decide) (fun h_3 => ?_) (fun h_3 => ?_)
      · refine lv_iload hx hb dX4_greatestHeap_41 (lv_at hl 0 rfl) ?_
        refine lv_iconst (v := 1) hx hb dX4_greatestHeap_43 (by decide) ?_
        refine lv_icmp_ne (tgt := 53) hx hb dX4_greatestHeap_44 (by decide) (fun h_4 => ?_) (fun h_4 => ?_)
        · refine lv_iinc (v := ((w_heapIt wd child asking 0 0 0 k).2.2) + 1) (lv' := [(5, .int (((w_heapIt wd child asking 0 0 0 k).2.2) + 1)), (7, .int (w_toldNow wd (nI k) child asking)), (0, .ref (ad 0)), (1, .int child), (2, .int asking), (3, .int ((w_heapIt wd child asking 0 0 0 k).1)), (4, .int ((w_heapIt wd child asking 0 0 0 k).2.1)), (6, .int (nI k))]) hx hb dX4_greatestHeap_53 hl (k := 6) rfl rfl (by decide) rfl (fun ls hl => ?_)
          have hJ := J_2; (repeat rw [if_neg h_3] at hJ); (repeat rw [if_neg h_4] at hJ)
          first | exact hJ ls (lv_sub hl [5, 1, 2, 3, 4, 6, 0, 7] rfl) | ((repeat rw [if_neg h_3] at hl); (repeat rw [if_neg h_4] at hl); (repeat rw [if_neg h_3]); (repeat rw [if_neg h_4]); exact hJ ls (lv_sub hl [5, 1, 2, 3, 4, 6, 0, 7] rfl))
        · refine lv_iinc (v := ((w_heapIt wd child asking 0 0 0 k).2.1) + 1) (lv' := [(4, .int (((w_heapIt wd child asking 0 0 0 k).2.1) + 1)), (7, .int (w_toldNow wd (nI k) child asking)), (0, .ref (ad 0)), (1, .int child), (2, .int asking), (3, .int ((w_heapIt wd child asking 0 0 0 k).1)), (5, .int ((w_heapIt wd child asking 0 0 0 k).2.2)), (6, .int (nI k))]) hx hb dX4_greatestHeap_47 hl (k := 5) rfl rfl (by decide) rfl (fun ls hl => ?_)
          refine lv_goto (tgt := 56) hx hb dX4_greatestHeap_50 (by decide) ?_
          have hJ := J_2; (repeat rw [if_neg h_3] at hJ); (repeat rw [if_pos h_4] at hJ)
          first | exact hJ ls (lv_sub hl [5, 1, 2, 3, 4, 0, 6, 7] rfl) | ((repeat rw [if_neg h_3] at hl); (repeat rw [if_pos h_4] at hl); (repeat rw [if_neg h_3]); (repeat rw [if_pos h_4]); exact hJ ls (lv_sub hl [5, 1, 2, 3, 4, 0, 6, 7] rfl))
      · refine lv_iinc (v := ((w_heapIt wd child asking 0 0 0 k).1) + 1) (lv' := [(3, .int (((w_heapIt wd child asking 0 0 0 k).1) + 1)), (7, .int (w_toldNow wd (nI k) child asking)), (0, .ref (ad 0)), (1, .int child), (2, .int asking), (4, .int ((w_heapIt wd child asking 0 0 0 k).2.1)), (5, .int ((w_heapIt wd child asking 0 0 0 k).2.2)), (6, .int (nI k))]) hx hb dX4_greatestHeap_35 hl (k := 4) rfl rfl (by decide) rfl (fun ls hl => ?_)
        refine lv_goto (tgt := 56) hx hb dX4_greatestHeap_38 (by decide) ?_
        have hJ := J_2; (repeat rw [if_pos h_3] at hJ)
        first | exact hJ ls (lv_sub hl [0, 1, 2, 3, 4, 5, 6, 7] rfl) | ((repeat rw [if_pos h_3] at hl); (repeat rw [if_pos h_3]); exact hJ ls (lv_sub hl [0, 1, 2, 3, 4, 5, 6, 7] rfl))
theorem i_X4_bestAsking_X4 : ∀ w ∈ wsX40, w ∈ wsX4_bestAsking := fun _ h => List.mem_cons_of_mem _ (List.mem_append_left _ (List.mem_append_left _ (List.mem_append_right _ h)))
theorem k_X4_bestAsking_fieldLink_47 : Cond.fieldLink RX4 47 "SameWater$World" "lawCount" "I" ∈ wsX4_bestAsking := by decide +kernel
theorem k_X4_bestAsking_fieldLink_20 : Cond.fieldLink RX4 20 "SameWater$World" "askings" "LSameWater$Rows;" ∈ wsX4_bestAsking := by decide +kernel
theorem i_X4_bestAsking_X2 : ∀ w ∈ wsX20, w ∈ wsX4_bestAsking := fun _ h => List.mem_cons_of_mem _ (List.mem_append_left _ (List.mem_append_right _ h))
theorem k_X4_bestAsking_fieldLink_63 : Cond.fieldLink RX4 63 "SameWater$Rows" "size" "I" ∈ wsX4_bestAsking := by decide +kernel
theorem kd_X4_greatestHeap : yX4_greatestHeap.cls = RX4 ∧ yX4_greatestHeap.cls ≠ "java/lang/invoke/MethodHandle" ∧ yX4_greatestHeap.cls ≠ "java/lang/invoke/VarHandle" ∧ (parseMethodDescriptor yX4_greatestHeap.desc).map (fun d => d.parameters.length) = some 2 := by decide +kernel
def w_bestIt_st (wd : WT) (child : Int32) (k : Nat) (bs : Int32) (lst : Int32) : Int32 × Int32 := (if lst ≤ (w_greatestHeap wd child (nI k)) then bs else nI k, if lst ≤ (w_greatestHeap wd child (nI k)) then lst else w_greatestHeap wd child (nI k))
def w_bestIt (wd : WT) (child : Int32) (bs0 : Int32) (lst0 : Int32) : Nat → Int32 × Int32
  | 0 => (bs0, lst0)
  | k + 1 => w_bestIt_st wd child k ((w_bestIt wd child bs0 lst0 k).1) ((w_bestIt wd child bs0 lst0 k).2)
def w_bestAsking (wd : WT) (child : Int32) : Int32 := (w_bestIt wd child (-5) (nI (wLc wd)) ((wAs wd).1)).1
set_option maxHeartbeats 4000000 in
set_option maxRecDepth 100000 in
theorem c_X4_bestAsking (l : Launch) (G : GG) (ad : Nat → Nat) (wd : WT) (child : Int32)  : Met l yX4_bestAsking wsX4_bestAsking { frames := 6, cells := 0, slots := 0, locals := 167 } (roP G [.ref (ad 0), .int child] (fun H => WAt G ad wd H)) (roQ (some (.int (w_bestAsking wd child)))) 0 0 nF := by
  refine Met.ofW (cc := cX4_bestAsking) (maxL := 6) (ret := (some .int)) (by decide) rfl ?_
  intro p e s m args below meth c s₁ Bd hml hv
  obtain ⟨rfl, hK, hB⟩ := hv
  have hx := Bd.exec
  have hb := Bd.bytes
  have hr := Bd.returns
  have hts := atoms_spec (ws := wsX4_bestAsking) Bd.pre
  have hown : s.vm.findClass RX4 = some m.cls := findClass_of_methodNamed Bd.named
  have hlocks := Bd.notSynchronized
  have hC : CallFix p m c cX4_bestAsking 6 s _ wsX4_bestAsking RX4 := ⟨hx, hb, hml, hown, hts⟩
  have hl := lv_entry ([.ref (ad 0), .int child]) (n := 6) (Nat.le_of_ble_eq_true rfl)
  rw [lg_entry_eq]
  generalize (lg_sl ([.ref (ad 0), .int child]) ++ List.replicate (6 - (lg_sl ([.ref (ad 0), .int child])).length) Slot.unset).toArray = ls at hl ⊢
  have hl : lv_has ls 6 [(0, .ref (ad 0)), (1, .int child)] := hl
  have hW := hB
  obtain ⟨f_o, f_ch, f_as, f_an, f_tp, ⟨qf, f_q, hqf⟩, f_lw, hlc⟩ := hB
  refine lv_bipush (v := (-5)) hx hb dX4_bestAsking_0 (by decide +kernel) ?_
  refine lv_istore_n (lv' := [(2, .int (-5)), (0, .ref (ad 0)), (1, .int child)]) hx hb dX4_bestAsking_2 rfl hl (by decide) rfl (fun ls hl => ?_)
  refine lv_aload_n hx hb dX4_bestAsking_3 rfl (lv_at hl 1 rfl) ?_
  refine r_get (C := RX4) (T := TX4) (N := 6) hx hb hts i_X4_bestAsking_X4 hown hK f_o rfl 5 (by decide) k_X4_bestAsking_fieldLink_47 rfl rfl dX4_bestAsking_4 ?_
  refine lv_istore_n (lv' := [(3, .int (nI (wLc wd))), (2, .int (-5)), (0, .ref (ad 0)), (1, .int child)]) hx hb dX4_bestAsking_7 rfl hl (by decide) rfl (fun ls hl => ?_)
  refine lv_iconst (v := 0) hx hb dX4_bestAsking_8 (by decide) ?_
  refine lv_istore (lv' := [(4, .int 0), (3, .int (nI (wLc wd))), (2, .int (-5)), (0, .ref (ad 0)), (1, .int child)]) hx hb dX4_bestAsking_9 hl (by decide) rfl (fun ls hl => ?_)
  refine loop_at (nL := 6) (fun k : Nat => [(0, .ref (ad 0)), (1, .int child), (2, .int ((w_bestIt wd child (-5) (nI (wLc wd)) k).1)), (3, .int ((w_bestIt wd child (-5) (nI (wLc wd)) k).2)), (4, .int (nI k))]) (fun k => k ≤ (wAs wd).1) (fun k => (wAs wd).1 - k) 0 (Nat.zero_le _) (lv_sub hl [3, 4, 2, 1, 0] rfl) (fun k hk_k ih_k ls hl => ?_)
  have hl : lv_has ls 6 [(0, .ref (ad 0)), (1, .int child), (2, .int ((w_bestIt wd child (-5) (nI (wLc wd)) k).1)), (3, .int ((w_bestIt wd child (-5) (nI (wLc wd)) k).2)), (4, .int (nI k))] := hl
  refine lv_iload hx hb dX4_bestAsking_11 (lv_at hl 4 rfl) ?_
  refine lv_aload_n hx hb dX4_bestAsking_13 rfl (lv_at hl 0 rfl) ?_
  refine r_get (C := RX4) (T := TX4) (N := 6) hx hb hts i_X4_bestAsking_X4 hown hK f_o rfl 1 (by decide) k_X4_bestAsking_fieldLink_20 rfl rfl dX4_bestAsking_14 ?_
  refine r_get (C := RX2) (T := TX2) (N := 4) hx hb hts i_X4_bestAsking_X2 hown hK f_as.1 rfl 3 (by decide) k_X4_bestAsking_fieldLink_63 rfl rfl dX4_bestAsking_17 ?_
  refine lv_icmp_ge (tgt := 50) hx hb dX4_bestAsking_20 (by decide) (fun h_1 => ?_) (fun h_1 => ?_)
  · have hN_k : k = (wAs wd).1 := ge_ex (N := (wAs wd).1) rfl h_1 hk_k (by have := f_as.2.2.1; omega)
    subst hN_k
    refine lv_iload_n hx hb dX4_bestAsking_50 rfl (lv_at hl 2 rfl) ?_
    exact ro_iret hx hb hr hlocks dX4_bestAsking_51 rfl
  · have hlt_k : k < (wAs wd).1 := ge_in (N := (wAs wd).1) rfl h_1 hk_k (by have := f_as.2.2.1; omega)
    refine lv_aload_n hx hb dX4_bestAsking_23 rfl (lv_at hl 0 rfl) ?_
    refine lv_iload_n hx hb dX4_bestAsking_24 rfl (lv_at hl 1 rfl) ?_
    refine lv_iload hx hb dX4_bestAsking_25 (lv_at hl 4 rfl) ?_
    refine ro_call (va_runV (As := [.int child, .int (nI k)]) (rest := []) hC (c_X4_greatestHeap l G ad wd child (nI k)) (cwV 2 hts gX4_bestAsking_X4_greatestHeap rfl rfl rfl kd_X4_greatestHeap ⟨Nat.le_of_ble_eq_true rfl, Nat.le_of_ble_eq_true rfl⟩) (ro_preV hK f_o rfl hW) rfl rfl hl.1 rfl (lv_room (Nat.le_of_ble_eq_true rfl)) dX4_bestAsking_27 ⟨Nat.zero_le _, Nat.zero_le _⟩) ?_
    refine lv_istore (lv' := [(5, .int (w_greatestHeap wd child (nI k))), (0, .ref (ad 0)), (1, .int child), (2, .int ((w_bestIt wd child (-5) (nI (wLc wd)) k).1)), (3, .int ((w_bestIt wd child (-5) (nI (wLc wd)) k).2)), (4, .int (nI k))]) hx hb dX4_bestAsking_30 hl (by decide) rfl (fun ls hl => ?_)
    refine lv_iload hx hb dX4_bestAsking_32 (lv_at hl 0 rfl) ?_
    refine lv_iload_n hx hb dX4_bestAsking_34 rfl (lv_at hl 4 rfl) ?_
    refine join_at (nL := 6) 44 [(5, .int (w_greatestHeap wd child (nI k))), (0, .ref (ad 0)), (1, .int child), (2, .int (if ((w_bestIt wd child (-5) (nI (wLc wd)) k).2) ≤ (w_greatestHeap wd child (nI k)) then (w_bestIt wd child (-5) (nI (wLc wd)) k).1 else nI k)), (3, .int (if ((w_bestIt wd child (-5) (nI (wLc wd)) k).2) ≤ (w_greatestHeap wd child (nI k)) then (w_bestIt wd child (-5) (nI (wLc wd)) k).2 else w_greatestHeap wd child (nI k))), (4, .int (nI k))] [] (fun ls hl => ?_) (fun J_2 => ?_)
    · refine lv_iinc (v := (nI k) + 1) (lv' := [(4, .int ((nI k) + 1)), (5, .int (w_greatestHeap wd child (nI k))), (0, .ref (ad 0)), (1, .int child), (2, .int (if ((w_bestIt wd child (-5) (nI (wLc wd)) k).2) ≤ (w_greatestHeap wd child (nI k)) then (w_bestIt wd child (-5) (nI (wLc wd)) k).1 else nI k)), (3, .int (if ((w_bestIt wd child (-5) (nI (wLc wd)) k).2) ≤ (w_greatestHeap wd child (nI k)) then (w_bestIt wd child (-5) (nI (wLc wd)) k).2 else w_greatestHeap wd child (nI k)))]) hx hb dX4_bestAsking_44 hl (k := 5) rfl rfl (by decide) rfl (fun ls hl => ?_)
      refine lv_goto (tgt := 11) hx hb dX4_bestAsking_47 (by decide) ?_
      have hE : (w_bestIt wd child (-5) (nI (wLc wd)) (k + 1)) = (if ((w_bestIt wd child (-5) (nI (wLc wd)) k).2) ≤ (w_greatestHeap wd child (nI k)) then (w_bestIt wd child (-5) (nI (wLc wd)) k).1 else nI k, if ((w_bestIt wd child (-5) (nI (wLc wd)) k).2) ≤ (w_greatestHeap wd child (nI k)) then (w_bestIt wd child (-5) (nI (wLc wd)) k).2 else w_greatestHeap wd child (nI k)) := (by show w_bestIt_st wd child k ((w_bestIt wd child (-5) (nI (wLc wd)) k).1) ((w_bestIt wd child (-5) (nI (wLc wd)) k).2) = _; (try unfold w_bestIt_st); first | done | rfl)
      refine ih_k (k + 1) (show k + 1 ≤ (wAs wd).1 by omega) (by omega) ls ?_
      show lv_has ls 6 [(0, .ref (ad 0)), (1, .int child), (2, .int ((w_bestIt wd child (-5) (nI (wLc wd)) (k + 1)).1)), (3, .int ((w_bestIt wd child (-5) (nI (wLc wd)) (k + 1)).2)), (4, .int (nI (k + 1)))]
      rw [nI_succ, hE]
      exact lv_sub hl [2, 3, 4, 5, 0] rfl
    · refine lv_icmp_ge (tgt := 44) hx hb dX4_bestAsking_35 (by decide) (fun h_3 => ?_) (fun h_3 => ?_)
      · have hJ := J_2; (repeat rw [if_pos h_3] at hJ)
        first | exact hJ ls (lv_sub hl [0, 1, 2, 3, 4, 5] rfl) | ((repeat rw [if_pos h_3] at hl); (repeat rw [if_pos h_3]); exact hJ ls (lv_sub hl [0, 1, 2, 3, 4, 5] rfl))
      · refine lv_iload hx hb dX4_bestAsking_38 (lv_at hl 0 rfl) ?_
        refine lv_istore_n (lv' := [(3, .int (w_greatestHeap wd child (nI k))), (5, .int (w_greatestHeap wd child (nI k))), (0, .ref (ad 0)), (1, .int child), (2, .int ((w_bestIt wd child (-5) (nI (wLc wd)) k).1)), (4, .int (nI k))]) hx hb dX4_bestAsking_40 rfl hl (by decide) rfl (fun ls hl => ?_)
        refine lv_iload hx hb dX4_bestAsking_41 (lv_at hl 5 rfl) ?_
        refine lv_istore_n (lv' := [(2, .int (nI k)), (3, .int (w_greatestHeap wd child (nI k))), (5, .int (w_greatestHeap wd child (nI k))), (0, .ref (ad 0)), (1, .int child), (4, .int (nI k))]) hx hb dX4_bestAsking_43 rfl hl (by decide) rfl (fun ls hl => ?_)
        have hJ := J_2; (repeat rw [if_neg h_3] at hJ)
        first | exact hJ ls (lv_sub hl [2, 3, 4, 0, 1, 5] rfl) | ((repeat rw [if_neg h_3] at hl); (repeat rw [if_neg h_3]); exact hJ ls (lv_sub hl [2, 3, 4, 0, 1, 5] rfl))
theorem i_X4_unchanged_X4 : ∀ w ∈ wsX40, w ∈ wsX4_unchanged := fun _ h => List.mem_cons_of_mem _ (List.mem_append_left _ (List.mem_append_right _ h))
theorem k_X4_unchanged_fieldLink_23 : Cond.fieldLink RX4 23 "SameWater$World" "answers" "LSameWater$Rows;" ∈ wsX4_unchanged := by decide +kernel
theorem i_X4_unchanged_X2 : ∀ w ∈ wsX20, w ∈ wsX4_unchanged := fun _ h => List.mem_cons_of_mem _ (List.mem_append_right _ h)
theorem k_X4_unchanged_fieldLink_63 : Cond.fieldLink RX4 63 "SameWater$Rows" "size" "I" ∈ wsX4_unchanged := by decide +kernel
theorem kd_X4_ofAsked : yX4_ofAsked.cls = RX4 ∧ yX4_ofAsked.cls ≠ "java/lang/invoke/MethodHandle" ∧ yX4_ofAsked.cls ≠ "java/lang/invoke/VarHandle" ∧ (parseMethodDescriptor yX4_ofAsked.desc).map (fun d => d.parameters.length) = some 2 := by decide +kernel
theorem kd_X4_isSame : yX4_isSame.cls = RX4 ∧ yX4_isSame.cls ≠ "java/lang/invoke/MethodHandle" ∧ yX4_isSame.cls ≠ "java/lang/invoke/VarHandle" ∧ (parseMethodDescriptor yX4_isSame.desc).map (fun d => d.parameters.length) = some 1 := by decide +kernel
def w_unchIt_st (wd : WT) (moved times : Int32) (only : Bool) (k : Nat) (fo : Int64) : Int64 := if (if (w_ofAsked wd (nI k) 6) = 0 then if (w_ofAsked wd (nI k) 1) = moved then if times = (-1) then true else if (w_ofAsked wd (nI k) 2) = times then true else false else false else false) = true then if only = true then if (w_isSame wd (nI k)) = true then fo + 1 else fo else fo + 1 else fo
def w_unchIt (wd : WT) (moved times : Int32) (only : Bool) (fo0 : Int64) : Nat → Int64
  | 0 => fo0
  | k + 1 => w_unchIt_st wd moved times only k (w_unchIt wd moved times only fo0 k)
def w_unchanged (wd : WT) (moved : Int32) (times : Int32) (only : Bool) : Int64 := (w_unchIt wd moved times only 0 ((wAn wd).1))
set_option maxHeartbeats 4000000 in
set_option maxRecDepth 100000 in
theorem c_X4_unchanged (l : Launch) (G : GG) (ad : Nat → Nat) (wd : WT) (moved : Int32) (times : Int32) (only : Bool)  : Met l yX4_unchanged wsX4_unchanged { frames := 2, cells := 0, slots := 0, locals := 44 } (roP G [.ref (ad 0), .int moved, .int times, .int (b2i only)] (fun H => WAt G ad wd H)) (roQ (some (.long (w_unchanged wd moved times only)))) 0 0 nF := by
  refine Met.ofW (cc := cX4_unchanged) (maxL := 8) (ret := (some .long)) (by decide) rfl ?_
  intro p e s m args below meth c s₁ Bd hml hv
  obtain ⟨rfl, hK, hB⟩ := hv
  have hx := Bd.exec
  have hb := Bd.bytes
  have hr := Bd.returns
  have hts := atoms_spec (ws := wsX4_unchanged) Bd.pre
  have hown : s.vm.findClass RX4 = some m.cls := findClass_of_methodNamed Bd.named
  have hlocks := Bd.notSynchronized
  have hC : CallFix p m c cX4_unchanged 8 s _ wsX4_unchanged RX4 := ⟨hx, hb, hml, hown, hts⟩
  have hl := lv_entry ([.ref (ad 0), .int moved, .int times, .int (b2i only)]) (n := 8) (Nat.le_of_ble_eq_true rfl)
  rw [lg_entry_eq]
  generalize (lg_sl ([.ref (ad 0), .int moved, .int times, .int (b2i only)]) ++ List.replicate (8 - (lg_sl ([.ref (ad 0), .int moved, .int times, .int (b2i only)])).length) Slot.unset).toArray = ls at hl ⊢
  have hl : lv_has ls 8 [(0, .ref (ad 0)), (1, .int moved), (2, .int times), (3, .int (b2i only))] := hl
  have hW := hB
  obtain ⟨f_o, f_ch, f_as, f_an, f_tp, ⟨qf, f_q, hqf⟩, f_lw, hlc⟩ := hB
  refine lv_lconst (v := 0) hx hb dX4_unchanged_0 (by decide) ?_
  refine lv_lstore (lv' := [(4, .long 0), (0, .ref (ad 0)), (1, .int moved), (2, .int times), (3, .int (b2i only))]) hx hb dX4_unchanged_1 hl (by decide) rfl (fun ls hl => ?_)
  refine lv_iconst (v := 0) hx hb dX4_unchanged_3 (by decide) ?_
  refine lv_istore (lv' := [(6, .int 0), (4, .long 0), (0, .ref (ad 0)), (1, .int moved), (2, .int times), (3, .int (b2i only))]) hx hb dX4_unchanged_4 hl (by decide) rfl (fun ls hl => ?_)
  refine loop_at (nL := 8) (fun k : Nat => [(0, .ref (ad 0)), (1, .int moved), (2, .int times), (3, .int (b2i only)), (4, .long (w_unchIt wd moved times only 0 k)), (6, .int (nI k))]) (fun k => k ≤ (wAn wd).1) (fun k => (wAn wd).1 - k) 0 (Nat.zero_le _) (lv_sub hl [2, 3, 4, 5, 1, 0] rfl) (fun k hk_k ih_k ls hl => ?_)
  have hl : lv_has ls 8 [(0, .ref (ad 0)), (1, .int moved), (2, .int times), (3, .int (b2i only)), (4, .long (w_unchIt wd moved times only 0 k)), (6, .int (nI k))] := hl
  refine lv_iload hx hb dX4_unchanged_6 (lv_at hl 5 rfl) ?_
  refine lv_aload_n hx hb dX4_unchanged_8 rfl (lv_at hl 0 rfl) ?_
  refine r_get (C := RX4) (T := TX4) (N := 6) hx hb hts i_X4_unchanged_X4 hown hK f_o rfl 2 (by decide) k_X4_unchanged_fieldLink_23 rfl rfl dX4_unchanged_9 ?_
  refine r_get (C := RX2) (T := TX2) (N := 4) hx hb hts i_X4_unchanged_X2 hown hK f_an.1 rfl 3 (by decide) k_X4_unchanged_fieldLink_63 rfl rfl dX4_unchanged_12 ?_
  refine lv_icmp_ge (tgt := 93) hx hb dX4_unchanged_15 (by decide) (fun h_1 => ?_) (fun h_1 => ?_)
  · have hN_k : k = (wAn wd).1 := ge_ex (N := (wAn wd).1) rfl h_1 hk_k (by have := f_an.2.2.1; omega)
    subst hN_k
    refine lv_lload hx hb dX4_unchanged_93 (lv_at hl 4 rfl) ?_
    exact ro_lret hx hb hr hlocks dX4_unchanged_95 rfl
  · have hlt_k : k < (wAn wd).1 := ge_in (N := (wAn wd).1) rfl h_1 hk_k (by have := f_an.2.2.1; omega)
    refine lv_aload_n hx hb dX4_unchanged_18 rfl (lv_at hl 0 rfl) ?_
    refine lv_iload hx hb dX4_unchanged_19 (lv_at hl 5 rfl) ?_
    refine lv_bipush (v := 6) hx hb dX4_unchanged_21 (by decide +kernel) ?_
    refine ro_call (va_runV (As := [.int (nI k), .int 6]) (rest := []) hC (c_X4_ofAsked l G ad wd (nI k) 6) (cwV 2 hts gX4_unchanged_X4_ofAsked rfl rfl rfl kd_X4_ofAsked ⟨Nat.le_of_ble_eq_true rfl, Nat.le_of_ble_eq_true rfl⟩) (ro_preV hK f_o rfl hW) rfl rfl hl.1 rfl (lv_room (Nat.le_of_ble_eq_true rfl)) dX4_unchanged_23 ⟨Nat.zero_le _, Nat.zero_le _⟩) ?_
    refine join_at (nL := 8) 61 [(0, .ref (ad 0)), (1, .int moved), (2, .int times), (3, .int (b2i only)), (4, .long (w_unchIt wd moved times only 0 k)), (6, .int (nI k))] [.int (b2i (if (w_ofAsked wd (nI k) 6) = 0 then if (w_ofAsked wd (nI k) 1) = moved then if times = (-1) then true else if (w_ofAsked wd (nI k) 2) = times then true else false else false else false))] (fun ls hl => ?_) (fun J_2 => ?_)
    · refine lv_istore (lv' := [(7, .int (b2i (if (w_ofAsked wd (nI k) 6) = 0 then if (w_ofAsked wd (nI k) 1) = moved then if times = (-1) then true else if (w_ofAsked wd (nI k) 2) = times then true else false else false else false))), (0, .ref (ad 0)), (1, .int moved), (2, .int times), (3, .int (b2i only)), (4, .long (w_unchIt wd moved times only 0 k)), (6, .int (nI k))]) hx hb dX4_unchanged_61 hl (by decide) rfl (fun ls hl => ?_)
      refine lv_iload hx hb dX4_unchanged_63 (lv_at hl 0 rfl) ?_
      refine join_at (nL := 8) 87 [(4, .long (if (if (w_ofAsked wd (nI k) 6) = 0 then if (w_ofAsked wd (nI k) 1) = moved then if times = (-1) then true else if (w_ofAsked wd (nI k) 2) = times then true else false else false else false) = true then if only = true then if (w_isSame wd (nI k)) = true then (w_unchIt wd moved times only 0 k) + 1 else (w_unchIt wd moved times only 0 k) else (w_unchIt wd moved times only 0 k) + 1 else (w_unchIt wd moved times only 0 k))), (7, .int (b2i (if (w_ofAsked wd (nI k) 6) = 0 then if (w_ofAsked wd (nI k) 1) = moved then if times = (-1) then true else if (w_ofAsked wd (nI k) 2) = times then true else false else false else false))), (0, .ref (ad 0)), (1, .int moved), (2, .int times), (3, .int (b2i only)), (6, .int (nI k))] [] (fun ls hl => ?_) (fun J_3 => ?_)
      · refine lv_iinc (v := (nI k) + 1) (lv' := [(6, .int ((nI k) + 1)), (4, .long (if (if (w_ofAsked wd (nI k) 6) = 0 then if (w_ofAsked wd (nI k) 1) = moved then if times = (-1) then true else if (w_ofAsked wd (nI k) 2) = times then true else false else false else false) = true then if only = true then if (w_isSame wd (nI k)) = true then (w_unchIt wd moved times only 0 k) + 1 else (w_unchIt wd moved times only 0 k) else (w_unchIt wd moved times only 0 k) + 1 else (w_unchIt wd moved times only 0 k))), (7, .int (b2i (if (w_ofAsked wd (nI k) 6) = 0 then if (w_ofAsked wd (nI k) 1) = moved then if times = (-1) then true else if (w_ofAsked wd (nI k) 2) = times then true else false else false else false))), (0, .ref (ad 0)), (1, .int moved), (2, .int times), (3, .int (b2i only))]) hx hb dX4_unchanged_87 hl (k := 6) rfl rfl (by decide) rfl (fun ls hl => ?_)
        refine lv_goto (tgt := 6) hx hb dX4_unchanged_90 (by decide) ?_
        have hE : (w_unchIt wd moved times only 0 (k + 1)) = if (if (w_ofAsked wd (nI k) 6) = 0 then if (w_ofAsked wd (nI k) 1) = moved then if times = (-1) then true else if (w_ofAsked wd (nI k) 2) = times then true else false else false else false) = true then if only = true then if (w_isSame wd (nI k)) = true then (w_unchIt wd moved times only 0 k) + 1 else (w_unchIt wd moved times only 0 k) else (w_unchIt wd moved times only 0 k) + 1 else (w_unchIt wd moved times only 0 k) := (by show w_unchIt_st wd moved times only k (w_unchIt wd moved times only 0 k) = _; (try unfold w_unchIt_st); first | done | rfl)
        refine ih_k (k + 1) (show k + 1 ≤ (wAn wd).1 by omega) (by omega) ls ?_
        show lv_has ls 8 [(0, .ref (ad 0)), (1, .int moved), (2, .int times), (3, .int (b2i only)), (4, .long (w_unchIt wd moved times only 0 (k + 1))), (6, .int (nI (k + 1)))]
        rw [nI_succ, hE]
        exact lv_sub hl [3, 4, 5, 6, 1, 0] rfl
      · refine bz_eq (tgt := 87) hx hb dX4_unchanged_65 (by decide) (fun h_4 => ?_) (fun h_4 => ?_)
        · have hJ := J_3; (repeat rw [if_neg h_4] at hJ)
          first | exact hJ ls (lv_sub hl [5, 0, 1, 2, 3, 4, 6] rfl) | ((repeat rw [if_neg h_4] at hl); (repeat rw [if_neg h_4]); exact hJ ls (lv_sub hl [5, 0, 1, 2, 3, 4, 6] rfl))
        · refine lv_iload_n hx hb dX4_unchanged_68 rfl (lv_at hl 4 rfl) ?_
          refine bz_eq (tgt := 81) hx hb dX4_unchanged_69 (by decide) (fun h_5 => ?_) (fun h_5 => ?_)
          · refine lv_lload hx hb dX4_unchanged_81 (lv_at hl 5 rfl) ?_
            refine lv_lconst (v := 1) hx hb dX4_unchanged_83 (by decide) ?_
            refine lv_ladd hx hb dX4_unchanged_84 ?_
            refine lv_lstore (lv' := [(4, .long ((w_unchIt wd moved times only 0 k) + 1)), (7, .int (b2i (if (w_ofAsked wd (nI k) 6) = 0 then if (w_ofAsked wd (nI k) 1) = moved then if times = (-1) then true else if (w_ofAsked wd (nI k) 2) = times then true else false else false else false))), (0, .ref (ad 0)), (1, .int moved), (2, .int times), (3, .int (b2i only)), (6, .int (nI k))]) hx hb dX4_unchanged_85 hl (by decide) rfl (fun ls hl => ?_)
            have hJ := J_3; (repeat rw [if_pos h_4] at hJ); (repeat rw [if_neg h_5] at hJ)
            first | exact hJ ls (lv_sub hl [0, 1, 2, 3, 4, 5, 6] rfl) | ((repeat rw [if_pos h_4] at hl); (repeat rw [if_neg h_5] at hl); (repeat rw [if_pos h_4]); (repeat rw [if_neg h_5]); exact hJ ls (lv_sub hl [0, 1, 2, 3, 4, 5, 6] rfl))
          · refine lv_aload_n hx hb dX4_unchanged_72 rfl (lv_at hl 1 rfl) ?_
            refine lv_iload hx hb dX4_unchanged_73 (lv_at hl 6 rfl) ?_
            refine ro_call (va_runV (As := [.int (nI k)]) (rest := []) hC (c_X4_isSame l G ad wd (nI k)) (cwV 1 hts gX4_unchanged_X4_isSame rfl rfl rfl kd_X4_isSame ⟨Nat.le_of_ble_eq_true rfl, Nat.le_of_ble_eq_true rfl⟩) (ro_preV hK f_o rfl hW) rfl rfl hl.1 rfl (lv_room (Nat.le_of_ble_eq_true rfl)) dX4_unchanged_75 ⟨Nat.zero_le _, Nat.zero_le _⟩) ?_
            refine bz_eq (tgt := 87) hx hb dX4_unchanged_78 (by decide) (fun h_6 => ?_) (fun h_6 => ?_)
            · have hJ := J_3; (repeat rw [if_pos h_4] at hJ); (repeat rw [if_pos h_5] at hJ); (repeat rw [if_neg h_6] at hJ)
              first | exact hJ ls (lv_sub hl [5, 0, 1, 2, 3, 4, 6] rfl) | ((repeat rw [if_pos h_4] at hl); (repeat rw [if_pos h_5] at hl); (repeat rw [if_neg h_6] at hl); (repeat rw [if_pos h_4]); (repeat rw [if_pos h_5]); (repeat rw [if_neg h_6]); exact hJ ls (lv_sub hl [5, 0, 1, 2, 3, 4, 6] rfl))
            · refine lv_lload hx hb dX4_unchanged_81 (lv_at hl 5 rfl) ?_
              refine lv_lconst (v := 1) hx hb dX4_unchanged_83 (by decide) ?_
              refine lv_ladd hx hb dX4_unchanged_84 ?_
              refine lv_lstore (lv' := [(4, .long ((w_unchIt wd moved times only 0 k) + 1)), (7, .int (b2i (if (w_ofAsked wd (nI k) 6) = 0 then if (w_ofAsked wd (nI k) 1) = moved then if times = (-1) then true else if (w_ofAsked wd (nI k) 2) = times then true else false else false else false))), (0, .ref (ad 0)), (1, .int moved), (2, .int times), (3, .int (b2i only)), (6, .int (nI k))]) hx hb dX4_unchanged_85 hl (by decide) rfl (fun ls hl => ?_)
              have hJ := J_3; (repeat rw [if_pos h_4] at hJ); (repeat rw [if_pos h_5] at hJ); (repeat rw [if_pos h_6] at hJ)
              first | exact hJ ls (lv_sub hl [0, 1, 2, 3, 4, 5, 6] rfl) | ((repeat rw [if_pos h_4] at hl); (repeat rw [if_pos h_5] at hl); (repeat rw [if_pos h_6] at hl); (repeat rw [if_pos h_4]); (repeat rw [if_pos h_5]); (repeat rw [if_pos h_6]); exact hJ ls (lv_sub hl [0, 1, 2, 3, 4, 5, 6] rfl))
    · refine lv_if_ne (tgt := 60) hx hb dX4_unchanged_26 (by decide) (fun h_7 => ?_) (fun h_7 => ?_)
      · refine lv_iconst (v := 0) hx hb dX4_unchanged_60 (by decide) ?_
        have hJ := J_2; (repeat rw [if_neg h_7] at hJ)
        first | exact hJ ls (lv_sub hl [0, 1, 2, 3, 4, 5] rfl) | ((repeat rw [if_neg h_7] at hl); (repeat rw [if_neg h_7]); exact hJ ls (lv_sub hl [0, 1, 2, 3, 4, 5] rfl))
      · refine lv_aload_n hx hb dX4_unchanged_29 rfl (lv_at hl 0 rfl) ?_
        refine lv_iload hx hb dX4_unchanged_30 (lv_at hl 5 rfl) ?_
        refine lv_iconst (v := 1) hx hb dX4_unchanged_32 (by decide) ?_
        refine ro_call (va_runV (As := [.int (nI k), .int 1]) (rest := []) hC (c_X4_ofAsked l G ad wd (nI k) 1) (cwV 2 hts gX4_unchanged_X4_ofAsked rfl rfl rfl kd_X4_ofAsked ⟨Nat.le_of_ble_eq_true rfl, Nat.le_of_ble_eq_true rfl⟩) (ro_preV hK f_o rfl hW) rfl rfl hl.1 rfl (lv_room (Nat.le_of_ble_eq_true rfl)) dX4_unchanged_33 ⟨Nat.zero_le _, Nat.zero_le _⟩) ?_
        refine lv_iload_n hx hb dX4_unchanged_36 rfl (lv_at hl 1 rfl) ?_
        refine lv_icmp_ne (tgt := 60) hx hb dX4_unchanged_37 (by decide) (fun h_8 => ?_) (fun h_8 => ?_)
        · refine lv_iconst (v := 0) hx hb dX4_unchanged_60 (by decide) ?_
          have hJ := J_2; (repeat rw [if_pos h_7] at hJ); (repeat rw [if_neg h_8] at hJ)
          first | exact hJ ls (lv_sub hl [0, 1, 2, 3, 4, 5] rfl) | ((repeat rw [if_pos h_7] at hl); (repeat rw [if_neg h_8] at hl); (repeat rw [if_pos h_7]); (repeat rw [if_neg h_8]); exact hJ ls (lv_sub hl [0, 1, 2, 3, 4, 5] rfl))
        · refine lv_iload_n hx hb dX4_unchanged_40 rfl (lv_at hl 2 rfl) ?_
          refine lv_iconst (v := (-1)) hx hb dX4_unchanged_41 (by decide) ?_
          refine lv_icmp_eq (tgt := 56) hx hb dX4_unchanged_42 (by decide) (fun h_9 => ?_) (fun h_9 => ?_)
          · refine lv_iconst (v := 1) hx hb dX4_unchanged_56 (by decide) ?_
            refine lv_goto (tgt := 61) hx hb dX4_unchanged_57 (by decide) ?_
            have hJ := J_2; (repeat rw [if_pos h_7] at hJ); (repeat rw [if_pos h_8] at hJ); (repeat rw [if_pos h_9] at hJ)
            first | exact hJ ls (lv_sub hl [0, 1, 2, 3, 4, 5] rfl) | ((repeat rw [if_pos h_7] at hl); (repeat rw [if_pos h_8] at hl); (repeat rw [if_pos h_9] at hl); (repeat rw [if_pos h_7]); (repeat rw [if_pos h_8]); (repeat rw [if_pos h_9]); exact hJ ls (lv_sub hl [0, 1, 2, 3, 4, 5] rfl))
          · refine lv_aload_n hx hb dX4_unchanged_45 rfl (lv_at hl 0 rfl) ?_
            refine lv_iload hx hb dX4_unchanged_46 (lv_at hl 5 rfl) ?_
            refine lv_iconst (v := 2) hx hb dX4_unchanged_48 (by decide) ?_
            refine ro_call (va_runV (As := [.int (nI k), .int 2]) (rest := []) hC (c_X4_ofAsked l G ad wd (nI k) 2) (cwV 2 hts gX4_unchanged_X4_ofAsked rfl rfl rfl kd_X4_ofAsked ⟨Nat.le_of_ble_eq_true rfl, Nat.le_of_ble_eq_true rfl⟩) (ro_preV hK f_o rfl hW) rfl rfl hl.1 rfl (lv_room (Nat.le_of_ble_eq_true rfl)) dX4_unchanged_49 ⟨Nat.zero_le _, Nat.zero_le _⟩) ?_
            refine lv_iload_n hx hb dX4_unchanged_52 rfl (lv_at hl 2 rfl) ?_
            refine lv_icmp_ne (tgt := 60) hx hb dX4_unchanged_53 (by decide) (fun h_10 => ?_) (fun h_10 => ?_)
            · refine lv_iconst (v := 0) hx hb dX4_unchanged_60 (by decide) ?_
              have hJ := J_2; (repeat rw [if_pos h_7] at hJ); (repeat rw [if_pos h_8] at hJ); (repeat rw [if_neg h_9] at hJ); (repeat rw [if_neg h_10] at hJ)
              first | exact hJ ls (lv_sub hl [0, 1, 2, 3, 4, 5] rfl) | ((repeat rw [if_pos h_7] at hl); (repeat rw [if_pos h_8] at hl); (repeat rw [if_neg h_9] at hl); (repeat rw [if_neg h_10] at hl); (repeat rw [if_pos h_7]); (repeat rw [if_pos h_8]); (repeat rw [if_neg h_9]); (repeat rw [if_neg h_10]); exact hJ ls (lv_sub hl [0, 1, 2, 3, 4, 5] rfl))
            · refine lv_iconst (v := 1) hx hb dX4_unchanged_56 (by decide) ?_
              refine lv_goto (tgt := 61) hx hb dX4_unchanged_57 (by decide) ?_
              have hJ := J_2; (repeat rw [if_pos h_7] at hJ); (repeat rw [if_pos h_8] at hJ); (repeat rw [if_neg h_9] at hJ); (repeat rw [if_pos h_10] at hJ)
              first | exact hJ ls (lv_sub hl [0, 1, 2, 3, 4, 5] rfl) | ((repeat rw [if_pos h_7] at hl); (repeat rw [if_pos h_8] at hl); (repeat rw [if_neg h_9] at hl); (repeat rw [if_pos h_10] at hl); (repeat rw [if_pos h_7]); (repeat rw [if_pos h_8]); (repeat rw [if_neg h_9]); (repeat rw [if_pos h_10]); exact hJ ls (lv_sub hl [0, 1, 2, 3, 4, 5] rfl))
theorem k_X5_lowest_methodLink_223 : Cond.methodLink RX5 223 Lib.MathLoose.abs_long.x ∈ wsX5_lowest := by decide +kernel
theorem k_X5_lowest_mst_223 : Cond.static Lib.MathLoose.abs_long.x ∈ wsX5_lowest := by decide +kernel
theorem k_X5_lowest_min_223 : Cond.initialized "java/lang/Math" ∈ wsX5_lowest := by decide +kernel
theorem k_X5_lowest_mco_223 : Cond.code Lib.MathLoose.abs_long.x Lib.MathLoose.abs_long.code 2 (some .long) ∈ wsX5_lowest := by decide +kernel
theorem k_X5_lowest_methodLink_229 : Cond.methodLink RX5 229 Lib.MathLoose.max_long.x ∈ wsX5_lowest := by decide +kernel
theorem k_X5_lowest_mst_229 : Cond.static Lib.MathLoose.max_long.x ∈ wsX5_lowest := by decide +kernel
theorem k_X5_lowest_min_229 : Cond.initialized "java/lang/Math" ∈ wsX5_lowest := by decide +kernel
theorem k_X5_lowest_mco_229 : Cond.code Lib.MathLoose.max_long.x Lib.MathLoose.max_long.code 4 (some .long) ∈ wsX5_lowest := by decide +kernel
def f_gcdGo (ab be : Int64) (part : Int32) : Nat → Nat → Int64 → Int64 → Int64
  | 0, _, mo, _ => (if part = 0 then ab else be) / (if 1 < mo then mo else 1)
  | n + 1, k, mo, re => if (lg_cmp re 0) = 0 then (if part = 0 then ab else be) / (if 1 < mo then mo else 1) else f_gcdGo ab be part n (k + 1) re (mo - mo / re * re)
theorem f_gcdGo_0 (ab be : Int64) (part : Int32) (k : Nat) (mo : Int64) (re : Int64) : f_gcdGo ab be part 0 k mo re = ((if part = 0 then ab else be) / (if 1 < mo then mo else 1)) := rfl
theorem f_gcdGo_s (ab be : Int64) (part : Int32) (n k : Nat) (mo : Int64) (re : Int64) : f_gcdGo ab be part (n + 1) k mo re = (if (lg_cmp re 0) = 0 then (if part = 0 then ab else be) / (if 1 < mo then mo else 1) else f_gcdGo ab be part n (k + 1) re (mo - mo / re * re)) := rfl
def f_lowest (ab : Int64) (be : Int64) (part : Int32) : Int64 := f_gcdGo ab be part 100 0 (if 0 < ab then ab else -ab) be
set_option maxHeartbeats 4000000 in
set_option maxRecDepth 100000 in
theorem c_X5_lowest (l : Launch) (G : GG) (ab : Int64) (be : Int64) (part : Int32)  : Met l yX5_lowest wsX5_lowest { frames := 1, cells := 0, slots := 0, locals := 40 } (roP G [.long ab, .long be, .int part] (fun H => True)) (roQ (some (.long (f_lowest ab be part)))) 0 0 nF := by
  refine Met.ofW (cc := cX5_lowest) (maxL := 12) (ret := (some .long)) (by decide) rfl ?_
  intro p e s m args below meth c s₁ Bd hml hv
  obtain ⟨rfl, hK, hB⟩ := hv
  have hx := Bd.exec
  have hb := Bd.bytes
  have hr := Bd.returns
  have hts := atoms_spec (ws := wsX5_lowest) Bd.pre
  have hown : s.vm.findClass RX5 = some m.cls := findClass_of_methodNamed Bd.named
  have hlocks := Bd.notSynchronized
  have hC : CallFix p m c cX5_lowest 12 s _ wsX5_lowest RX5 := ⟨hx, hb, hml, hown, hts⟩
  have hl := lv_entry ([.long ab, .long be, .int part]) (n := 12) (Nat.le_of_ble_eq_true rfl)
  rw [lg_entry_eq]
  generalize (lg_sl ([.long ab, .long be, .int part]) ++ List.replicate (12 - (lg_sl ([.long ab, .long be, .int part])).length) Slot.unset).toArray = ls at hl ⊢
  have hl : lv_has ls 12 [(0, .long ab), (2, .long be), (4, .int part)] := hl
  refine lv_lload_n hx hb dX5_lowest_0 rfl (lv_at hl 0 rfl) ?_
  refine va_mabs_long hx hb (hml.trans hl.1.symm) hown (hts _ k_X5_lowest_methodLink_223) (hts _ k_X5_lowest_mst_223) (hts _ k_X5_lowest_min_223) (hts _ k_X5_lowest_mco_223) (Nat.le_of_ble_eq_true rfl) (Nat.le_of_ble_eq_true rfl) (Nat.zero_le _) (Nat.zero_le _) dX5_lowest_1 ?_
  refine lv_lstore (lv' := [(5, .long (if 0 < ab then ab else -ab)), (0, .long ab), (2, .long be), (4, .int part)]) hx hb dX5_lowest_4 hl (by decide) rfl (fun ls hl => ?_)
  refine lv_lload_n hx hb dX5_lowest_6 rfl (lv_at hl 2 rfl) ?_
  refine lv_lstore (lv' := [(7, .long be), (5, .long (if 0 < ab then ab else -ab)), (0, .long ab), (2, .long be), (4, .int part)]) hx hb dX5_lowest_7 hl (by decide) rfl (fun ls hl => ?_)
  refine lv_iconst (v := 0) hx hb dX5_lowest_9 (by decide) ?_
  refine lv_istore (lv' := [(9, .int 0), (7, .long be), (5, .long (if 0 < ab then ab else -ab)), (0, .long ab), (2, .long be), (4, .int part)]) hx hb dX5_lowest_10 hl (by decide) rfl (fun ls hl => ?_)
  refine loop_at (nL := 12) (α := Nat × Int64 × Int64) (fun a9 => [(0, .long ab), (2, .long be), (4, .int part), (5, .long (a9.2.1)), (7, .long (a9.2.2)), (9, .int (nI (a9.1)))]) (fun a9 => a9.1 ≤ 100 ∧ f_gcdGo ab be part (100 - a9.1) a9.1 a9.2.1 a9.2.2 = f_gcdGo ab be part 100 0 (if 0 < ab then ab else -ab) be) (fun a9 => 100 - a9.1) (0, if 0 < ab then ab else -ab, be) ⟨(by first | exact Nat.zero_le _ | decide | omega), rfl⟩ (lv_sub hl [3, 4, 5, 2, 1, 0] rfl) (fun a9 hI9 ih_k ls hl => ?_)
  obtain ⟨k, mo, re⟩ := a9
  obtain ⟨hk_k, hV⟩ : k ≤ 100 ∧ f_gcdGo ab be part (100 - k) k mo re = f_gcdGo ab be part 100 0 (if 0 < ab then ab else -ab) be := hI9
  have hl : lv_has ls 12 [(0, .long ab), (2, .long be), (4, .int part), (5, .long mo), (7, .long re), (9, .int (nI k))] := hl
  refine lv_iload hx hb dX5_lowest_12 (lv_at hl 5 rfl) ?_
  refine lv_bipush (v := 100) hx hb dX5_lowest_14 (by decide +kernel) ?_
  refine lv_icmp_ge (tgt := 47) hx hb dX5_lowest_16 (by decide) (fun h_1 => ?_) (fun h_1 => ?_)
  · have hN_k : k = 100 := ge_ex (N := 100) rfl h_1 hk_k (by omega)
    subst hN_k
    rw [Nat.sub_self] at hV
    refine lv_lload hx hb dX5_lowest_47 (lv_at hl 3 rfl) ?_
    refine lv_lconst (v := 1) hx hb dX5_lowest_49 (by decide) ?_
    refine va_mmax_long hx hb (hml.trans hl.1.symm) hown (hts _ k_X5_lowest_methodLink_229) (hts _ k_X5_lowest_mst_229) (hts _ k_X5_lowest_min_229) (hts _ k_X5_lowest_mco_229) (Nat.le_of_ble_eq_true rfl) (Nat.le_of_ble_eq_true rfl) (Nat.zero_le _) (Nat.zero_le _) dX5_lowest_50 ?_
    refine lv_lstore (lv' := [(9, .long (if 1 < mo then mo else 1)), (0, .long ab), (2, .long be), (4, .int part), (5, .long mo), (7, .long re)]) hx hb dX5_lowest_53 hl (by decide) rfl (fun ls hl => ?_)
    refine lv_iload hx hb dX5_lowest_55 (lv_at hl 3 rfl) ?_
    refine join_at (nL := 12) 65 [(9, .long (if 1 < mo then mo else 1)), (0, .long ab), (2, .long be), (4, .int part), (5, .long mo), (7, .long re)] [.long (if part = 0 then ab else be)] (fun ls hl => ?_) (fun J_2 => ?_)
    · refine lv_lload hx hb dX5_lowest_65 (lv_at hl 0 rfl) ?_
      refine lv_ldiv hx hb dX5_lowest_67 (max1_ne _) ?_
      exact ro_lret hx hb hr hlocks dX5_lowest_68 (by (try unfold f_lowest); rw [← hV, f_gcdGo_0]; first | done | rfl)
    · refine lv_if_ne (tgt := 64) hx hb dX5_lowest_57 (by decide) (fun h_3 => ?_) (fun h_3 => ?_)
      · refine lv_lload_n hx hb dX5_lowest_64 rfl (lv_at hl 2 rfl) ?_
        have hJ := J_2; (repeat rw [if_neg h_3] at hJ)
        first | exact hJ ls (lv_sub hl [0, 1, 2, 3, 4, 5] rfl) | ((repeat rw [if_neg h_3] at hl); (repeat rw [if_neg h_3]); exact hJ ls (lv_sub hl [0, 1, 2, 3, 4, 5] rfl))
      · refine lv_lload_n hx hb dX5_lowest_60 rfl (lv_at hl 1 rfl) ?_
        refine lv_goto (tgt := 65) hx hb dX5_lowest_61 (by decide) ?_
        have hJ := J_2; (repeat rw [if_pos h_3] at hJ)
        first | exact hJ ls (lv_sub hl [0, 1, 2, 3, 4, 5] rfl) | ((repeat rw [if_pos h_3] at hl); (repeat rw [if_pos h_3]); exact hJ ls (lv_sub hl [0, 1, 2, 3, 4, 5] rfl))
  · have hlt_k : k < 100 := ge_in (N := 100) rfl h_1 hk_k (by omega)
    obtain ⟨n9, hn9⟩ : ∃ n9, 100 - k = n9 + 1 := ⟨100 - k - 1, by omega⟩
    rw [hn9] at hV
    refine lv_lload hx hb dX5_lowest_19 (lv_at hl 4 rfl) ?_
    refine lv_lconst (v := 0) hx hb dX5_lowest_21 (by decide) ?_
    refine W.lcmp hx hb dX5_lowest_22 ?_
    refine lv_if_eq (tgt := 47) hx hb dX5_lowest_23 (by decide) (fun h_4 => ?_) (fun h_4 => ?_)
    · refine lv_lload hx hb dX5_lowest_47 (lv_at hl 3 rfl) ?_
      refine lv_lconst (v := 1) hx hb dX5_lowest_49 (by decide) ?_
      refine va_mmax_long hx hb (hml.trans hl.1.symm) hown (hts _ k_X5_lowest_methodLink_229) (hts _ k_X5_lowest_mst_229) (hts _ k_X5_lowest_min_229) (hts _ k_X5_lowest_mco_229) (Nat.le_of_ble_eq_true rfl) (Nat.le_of_ble_eq_true rfl) (Nat.zero_le _) (Nat.zero_le _) dX5_lowest_50 ?_
      refine lv_lstore (lv' := [(9, .long (if 1 < mo then mo else 1)), (0, .long ab), (2, .long be), (4, .int part), (5, .long mo), (7, .long re)]) hx hb dX5_lowest_53 hl (by decide) rfl (fun ls hl => ?_)
      refine lv_iload hx hb dX5_lowest_55 (lv_at hl 3 rfl) ?_
      refine join_at (nL := 12) 65 [(9, .long (if 1 < mo then mo else 1)), (0, .long ab), (2, .long be), (4, .int part), (5, .long mo), (7, .long re)] [.long (if part = 0 then ab else be)] (fun ls hl => ?_) (fun J_5 => ?_)
      · refine lv_lload hx hb dX5_lowest_65 (lv_at hl 0 rfl) ?_
        refine lv_ldiv hx hb dX5_lowest_67 (max1_ne _) ?_
        exact ro_lret hx hb hr hlocks dX5_lowest_68 (by (try unfold f_lowest); rw [← hV, f_gcdGo_s]; (repeat rw [if_neg h_1]); (repeat rw [if_pos h_4]); first | done | rfl)
      · refine lv_if_ne (tgt := 64) hx hb dX5_lowest_57 (by decide) (fun h_6 => ?_) (fun h_6 => ?_)
        · refine lv_lload_n hx hb dX5_lowest_64 rfl (lv_at hl 2 rfl) ?_
          have hJ := J_5; (repeat rw [if_neg h_6] at hJ)
          first | exact hJ ls (lv_sub hl [0, 1, 2, 3, 4, 5] rfl) | ((repeat rw [if_neg h_6] at hl); (repeat rw [if_neg h_6]); exact hJ ls (lv_sub hl [0, 1, 2, 3, 4, 5] rfl))
        · refine lv_lload_n hx hb dX5_lowest_60 rfl (lv_at hl 1 rfl) ?_
          refine lv_goto (tgt := 65) hx hb dX5_lowest_61 (by decide) ?_
          have hJ := J_5; (repeat rw [if_pos h_6] at hJ)
          first | exact hJ ls (lv_sub hl [0, 1, 2, 3, 4, 5] rfl) | ((repeat rw [if_pos h_6] at hl); (repeat rw [if_pos h_6]); exact hJ ls (lv_sub hl [0, 1, 2, 3, 4, 5] rfl))
    · refine lv_lload hx hb dX5_lowest_26 (lv_at hl 3 rfl) ?_
      refine lv_lload hx hb dX5_lowest_28 (lv_at hl 4 rfl) ?_
      refine lv_lrem hx hb dX5_lowest_30 (lcmp_ne h_4) ?_
      refine lv_lstore (lv' := [(10, .long (mo - mo / re * re)), (0, .long ab), (2, .long be), (4, .int part), (5, .long mo), (7, .long re), (9, .int (nI k))]) hx hb dX5_lowest_31 hl (by decide) rfl (fun ls hl => ?_)
      refine lv_lload hx hb dX5_lowest_33 (lv_at hl 5 rfl) ?_
      refine lv_lstore (lv' := [(5, .long re), (10, .long (mo - mo / re * re)), (0, .long ab), (2, .long be), (4, .int part), (7, .long re), (9, .int (nI k))]) hx hb dX5_lowest_35 hl (by decide) rfl (fun ls hl => ?_)
      refine lv_lload hx hb dX5_lowest_37 (lv_at hl 1 rfl) ?_
      refine lv_lstore (lv' := [(7, .long (mo - mo / re * re)), (5, .long re), (10, .long (mo - mo / re * re)), (0, .long ab), (2, .long be), (4, .int part), (9, .int (nI k))]) hx hb dX5_lowest_39 hl (by decide) rfl (fun ls hl => ?_)
      refine lv_iinc (v := (nI k) + 1) (lv' := [(9, .int ((nI k) + 1)), (7, .long (mo - mo / re * re)), (5, .long re), (10, .long (mo - mo / re * re)), (0, .long ab), (2, .long be), (4, .int part)]) hx hb dX5_lowest_41 hl (k := 6) rfl rfl (by decide) rfl (fun ls hl => ?_)
      refine lv_goto (tgt := 12) hx hb dX5_lowest_44 (by decide) ?_
      have hE : f_gcdGo ab be part n9 (k + 1) re (mo - mo / re * re) = f_gcdGo ab be part 100 0 (if 0 < ab then ab else -ab) be := (by rw [← hV, f_gcdGo_s]; (repeat rw [if_neg h_4]); first | done | rfl)
      refine ih_k ((k + 1, re, mo - mo / re * re)) ⟨(show k + 1 ≤ 100 by omega), (by show f_gcdGo ab be part (100 - (k + 1)) (k + 1) re (mo - mo / re * re) = _; rw [show 100 - (k + 1) = n9 by omega]; exact hE)⟩ (show 100 - (k + 1) < 100 - k by omega) ls ?_
      show lv_has ls 12 [(0, .long ab), (2, .long be), (4, .int part), (5, .long re), (7, .long (mo - mo / re * re)), (9, .int (nI (k + 1)))]
      rw [nI_succ]
      exact lv_sub hl [4, 5, 6, 2, 1, 0] rfl
theorem k_X4_shareLess_methodLink_156 : Cond.methodLink RX4 156 Lib.MathLoose.max_long.x ∈ wsX4_shareLess := by decide +kernel
theorem k_X4_shareLess_mst_156 : Cond.static Lib.MathLoose.max_long.x ∈ wsX4_shareLess := by decide +kernel
theorem k_X4_shareLess_min_156 : Cond.initialized "java/lang/Math" ∈ wsX4_shareLess := by decide +kernel
theorem k_X4_shareLess_mco_156 : Cond.code Lib.MathLoose.max_long.x Lib.MathLoose.max_long.code 4 (some .long) ∈ wsX4_shareLess := by decide +kernel
theorem k_X4_shareLess_nini_159 : Cond.initialized RX5 ∈ wsX4_shareLess := by decide +kernel
theorem k_X4_shareLess_nsta_159 : Cond.static yX5_lowest ∈ wsX4_shareLess := by decide +kernel
theorem kd_X4_unchanged : yX4_unchanged.cls = RX4 ∧ yX4_unchanged.cls ≠ "java/lang/invoke/MethodHandle" ∧ yX4_unchanged.cls ≠ "java/lang/invoke/VarHandle" ∧ (parseMethodDescriptor yX4_unchanged.desc).map (fun d => d.parameters.length) = some 3 := by decide +kernel
theorem kd_X5_lowest : yX5_lowest.cls ≠ "java/lang/invoke/MethodHandle" ∧ yX5_lowest.cls ≠ "java/lang/invoke/VarHandle" ∧ (parseMethodDescriptor yX5_lowest.desc).map (fun d => d.parameters.length) = some 3 := by decide +kernel
def w_shareLess (wd : WT) (moved : Int32) (times : Int32) (lmoved : Int32) (ltimes : Int32) (part : Int32) : Int64 := f_lowest (((w_unchanged wd moved times true) * (if 1 < (w_unchanged wd lmoved ltimes false) then (w_unchanged wd lmoved ltimes false) else 1)) - ((w_unchanged wd lmoved ltimes true) * (if 1 < (w_unchanged wd moved times false) then (w_unchanged wd moved times false) else 1))) ((if 1 < (w_unchanged wd moved times false) then (w_unchanged wd moved times false) else 1) * (if 1 < (w_unchanged wd lmoved ltimes false) then (w_unchanged wd lmoved ltimes false) else 1)) part
set_option maxHeartbeats 4000000 in
set_option maxRecDepth 100000 in
theorem c_X4_shareLess (l : Launch) (G : GG) (ad : Nat → Nat) (wd : WT) (moved : Int32) (times : Int32) (lmoved : Int32) (ltimes : Int32) (part : Int32)  : Met l yX4_shareLess wsX4_shareLess { frames := 3, cells := 0, slots := 0, locals := 71 } (roP G [.ref (ad 0), .int moved, .int times, .int lmoved, .int ltimes, .int part] (fun H => WAt G ad wd H)) (roQ (some (.long (w_shareLess wd moved times lmoved ltimes part)))) 0 0 nF := by
  refine Met.ofW (cc := cX4_shareLess) (maxL := 12) (ret := (some .long)) (by decide) rfl ?_
  intro p e s m args below meth c s₁ Bd hml hv
  obtain ⟨rfl, hK, hB⟩ := hv
  have hx := Bd.exec
  have hb := Bd.bytes
  have hr := Bd.returns
  have hts := atoms_spec (ws := wsX4_shareLess) Bd.pre
  have hown : s.vm.findClass RX4 = some m.cls := findClass_of_methodNamed Bd.named
  have hlocks := Bd.notSynchronized
  have hC : CallFix p m c cX4_shareLess 12 s _ wsX4_shareLess RX4 := ⟨hx, hb, hml, hown, hts⟩
  have hl := lv_entry ([.ref (ad 0), .int moved, .int times, .int lmoved, .int ltimes, .int part]) (n := 12) (Nat.le_of_ble_eq_true rfl)
  rw [lg_entry_eq]
  generalize (lg_sl ([.ref (ad 0), .int moved, .int times, .int lmoved, .int ltimes, .int part]) ++ List.replicate (12 - (lg_sl ([.ref (ad 0), .int moved, .int times, .int lmoved, .int ltimes, .int part])).length) Slot.unset).toArray = ls at hl ⊢
  have hl : lv_has ls 12 [(0, .ref (ad 0)), (1, .int moved), (2, .int times), (3, .int lmoved), (4, .int ltimes), (5, .int part)] := hl
  have hW := hB
  obtain ⟨f_o, f_ch, f_as, f_an, f_tp, ⟨qf, f_q, hqf⟩, f_lw, hlc⟩ := hB
  refine lv_aload_n hx hb dX4_shareLess_0 rfl (lv_at hl 0 rfl) ?_
  refine lv_iload_n hx hb dX4_shareLess_1 rfl (lv_at hl 1 rfl) ?_
  refine lv_iload_n hx hb dX4_shareLess_2 rfl (lv_at hl 2 rfl) ?_
  refine lv_iconst (v := 0) hx hb dX4_shareLess_3 (by decide) ?_
  refine ro_call (va_runV (As := [.int moved, .int times, .int 0]) (rest := []) hC (c_X4_unchanged l G ad wd moved times false) (cwV 3 hts gX4_shareLess_X4_unchanged rfl rfl rfl kd_X4_unchanged ⟨Nat.le_of_ble_eq_true rfl, Nat.le_of_ble_eq_true rfl⟩) (ro_preV hK f_o rfl hW) rfl rfl hl.1 rfl (lv_room (Nat.le_of_ble_eq_true rfl)) dX4_shareLess_4 ⟨Nat.zero_le _, Nat.zero_le _⟩) ?_
  refine lv_lconst (v := 1) hx hb dX4_shareLess_7 (by decide) ?_
  refine va_mmax_long hx hb (hml.trans hl.1.symm) hown (hts _ k_X4_shareLess_methodLink_156) (hts _ k_X4_shareLess_mst_156) (hts _ k_X4_shareLess_min_156) (hts _ k_X4_shareLess_mco_156) (Nat.le_of_ble_eq_true rfl) (Nat.le_of_ble_eq_true rfl) (Nat.zero_le _) (Nat.zero_le _) dX4_shareLess_8 ?_
  refine lv_lstore (lv' := [(6, .long (if 1 < (w_unchanged wd moved times false) then (w_unchanged wd moved times false) else 1)), (0, .ref (ad 0)), (1, .int moved), (2, .int times), (3, .int lmoved), (4, .int ltimes), (5, .int part)]) hx hb dX4_shareLess_11 hl (by decide) rfl (fun ls hl => ?_)
  refine lv_aload_n hx hb dX4_shareLess_13 rfl (lv_at hl 1 rfl) ?_
  refine lv_iload_n hx hb dX4_shareLess_14 rfl (lv_at hl 4 rfl) ?_
  refine lv_iload hx hb dX4_shareLess_15 (lv_at hl 5 rfl) ?_
  refine lv_iconst (v := 0) hx hb dX4_shareLess_17 (by decide) ?_
  refine ro_call (va_runV (As := [.int lmoved, .int ltimes, .int 0]) (rest := []) hC (c_X4_unchanged l G ad wd lmoved ltimes false) (cwV 3 hts gX4_shareLess_X4_unchanged rfl rfl rfl kd_X4_unchanged ⟨Nat.le_of_ble_eq_true rfl, Nat.le_of_ble_eq_true rfl⟩) (ro_preV hK f_o rfl hW) rfl rfl hl.1 rfl (lv_room (Nat.le_of_ble_eq_true rfl)) dX4_shareLess_18 ⟨Nat.zero_le _, Nat.zero_le _⟩) ?_
  refine lv_lconst (v := 1) hx hb dX4_shareLess_21 (by decide) ?_
  refine va_mmax_long hx hb (hml.trans hl.1.symm) hown (hts _ k_X4_shareLess_methodLink_156) (hts _ k_X4_shareLess_mst_156) (hts _ k_X4_shareLess_min_156) (hts _ k_X4_shareLess_mco_156) (Nat.le_of_ble_eq_true rfl) (Nat.le_of_ble_eq_true rfl) (Nat.zero_le _) (Nat.zero_le _) dX4_shareLess_22 ?_
  refine lv_lstore (lv' := [(8, .long (if 1 < (w_unchanged wd lmoved ltimes false) then (w_unchanged wd lmoved ltimes false) else 1)), (6, .long (if 1 < (w_unchanged wd moved times false) then (w_unchanged wd moved times false) else 1)), (0, .ref (ad 0)), (1, .int moved), (2, .int times), (3, .int lmoved), (4, .int ltimes), (5, .int part)]) hx hb dX4_shareLess_25 hl (by decide) rfl (fun ls hl => ?_)
  refine lv_aload_n hx hb dX4_shareLess_27 rfl (lv_at hl 2 rfl) ?_
  refine lv_iload_n hx hb dX4_shareLess_28 rfl (lv_at hl 3 rfl) ?_
  refine lv_iload_n hx hb dX4_shareLess_29 rfl (lv_at hl 4 rfl) ?_
  refine lv_iconst (v := 1) hx hb dX4_shareLess_30 (by decide) ?_
  refine ro_call (va_runV (As := [.int moved, .int times, .int 1]) (rest := []) hC (c_X4_unchanged l G ad wd moved times true) (cwV 3 hts gX4_shareLess_X4_unchanged rfl rfl rfl kd_X4_unchanged ⟨Nat.le_of_ble_eq_true rfl, Nat.le_of_ble_eq_true rfl⟩) (ro_preV hK f_o rfl hW) rfl rfl hl.1 rfl (lv_room (Nat.le_of_ble_eq_true rfl)) dX4_shareLess_31 ⟨Nat.zero_le _, Nat.zero_le _⟩) ?_
  refine lv_lload hx hb dX4_shareLess_34 (lv_at hl 0 rfl) ?_
  refine lv_lmul hx hb dX4_shareLess_36 ?_
  refine lv_aload_n hx hb dX4_shareLess_37 rfl (lv_at hl 2 rfl) ?_
  refine lv_iload_n hx hb dX4_shareLess_38 rfl (lv_at hl 5 rfl) ?_
  refine lv_iload hx hb dX4_shareLess_39 (lv_at hl 6 rfl) ?_
  refine lv_iconst (v := 1) hx hb dX4_shareLess_41 (by decide) ?_
  refine ro_call (va_runV (As := [.int lmoved, .int ltimes, .int 1]) (rest := [.long ((w_unchanged wd moved times true) * (if 1 < (w_unchanged wd lmoved ltimes false) then (w_unchanged wd lmoved ltimes false) else 1))]) hC (c_X4_unchanged l G ad wd lmoved ltimes true) (cwV 3 hts gX4_shareLess_X4_unchanged rfl rfl rfl kd_X4_unchanged ⟨Nat.le_of_ble_eq_true rfl, Nat.le_of_ble_eq_true rfl⟩) (ro_preV hK f_o rfl hW) rfl rfl hl.1 rfl (lv_room (Nat.le_of_ble_eq_true rfl)) dX4_shareLess_42 ⟨Nat.zero_le _, Nat.zero_le _⟩) ?_
  refine lv_lload hx hb dX4_shareLess_45 (lv_at hl 1 rfl) ?_
  refine lv_lmul hx hb dX4_shareLess_47 ?_
  refine lv_lsub hx hb dX4_shareLess_48 ?_
  refine lv_lstore (lv' := [(10, .long (((w_unchanged wd moved times true) * (if 1 < (w_unchanged wd lmoved ltimes false) then (w_unchanged wd lmoved ltimes false) else 1)) - ((w_unchanged wd lmoved ltimes true) * (if 1 < (w_unchanged wd moved times false) then (w_unchanged wd moved times false) else 1)))), (8, .long (if 1 < (w_unchanged wd lmoved ltimes false) then (w_unchanged wd lmoved ltimes false) else 1)), (6, .long (if 1 < (w_unchanged wd moved times false) then (w_unchanged wd moved times false) else 1)), (0, .ref (ad 0)), (1, .int moved), (2, .int times), (3, .int lmoved), (4, .int ltimes), (5, .int part)]) hx hb dX4_shareLess_49 hl (by decide) rfl (fun ls hl => ?_)
  refine lv_lload hx hb dX4_shareLess_51 (lv_at hl 0 rfl) ?_
  refine lv_lload hx hb dX4_shareLess_53 (lv_at hl 2 rfl) ?_
  refine lv_lload hx hb dX4_shareLess_55 (lv_at hl 1 rfl) ?_
  refine lv_lmul hx hb dX4_shareLess_57 ?_
  refine lv_iload hx hb dX4_shareLess_58 (lv_at hl 8 rfl) ?_
  refine ro_call (va_runSN (As := [.long (((w_unchanged wd moved times true) * (if 1 < (w_unchanged wd lmoved ltimes false) then (w_unchanged wd lmoved ltimes false) else 1)) - ((w_unchanged wd lmoved ltimes true) * (if 1 < (w_unchanged wd moved times false) then (w_unchanged wd moved times false) else 1))), .long ((if 1 < (w_unchanged wd moved times false) then (w_unchanged wd moved times false) else 1) * (if 1 < (w_unchanged wd lmoved ltimes false) then (w_unchanged wd lmoved ltimes false) else 1)), .int part]) (rest := []) hC (c_X5_lowest l G (((w_unchanged wd moved times true) * (if 1 < (w_unchanged wd lmoved ltimes false) then (w_unchanged wd lmoved ltimes false) else 1)) - ((w_unchanged wd lmoved ltimes true) * (if 1 < (w_unchanged wd moved times false) then (w_unchanged wd moved times false) else 1))) ((if 1 < (w_unchanged wd moved times false) then (w_unchanged wd moved times false) else 1) * (if 1 < (w_unchanged wd lmoved ltimes false) then (w_unchanged wd lmoved ltimes false) else 1)) part) ⟨va_cnB 3 hts gX4_shareLess_X5_lowest_n159 rfl rfl rfl (hK.2 _ (List.mem_of_getElem? (i := 5) rfl)) (hts _ k_X4_shareLess_nini_159) kd_X5_lowest ⟨Nat.le_of_ble_eq_true rfl, Nat.le_of_ble_eq_true rfl⟩, hts _ k_X4_shareLess_nsta_159, trivial⟩ (ro_preS hK trivial) rfl rfl hl.1 rfl (lv_room (Nat.le_of_ble_eq_true rfl)) dX4_shareLess_60 ⟨Nat.zero_le _, Nat.zero_le _⟩) ?_
  exact ro_lret hx hb hr hlocks dX4_shareLess_63 rfl
theorem i_X4_fooledChildren_X4 : ∀ w ∈ wsX40, w ∈ wsX4_fooledChildren := fun _ h => List.mem_cons_of_mem _ (List.mem_append_left _ (List.mem_append_right _ h))
theorem k_X4_fooledChildren_fieldLink_23 : Cond.fieldLink RX4 23 "SameWater$World" "answers" "LSameWater$Rows;" ∈ wsX4_fooledChildren := by decide +kernel
theorem i_X4_fooledChildren_X2 : ∀ w ∈ wsX20, w ∈ wsX4_fooledChildren := fun _ h => List.mem_cons_of_mem _ (List.mem_append_right _ h)
theorem k_X4_fooledChildren_fieldLink_63 : Cond.fieldLink RX4 63 "SameWater$Rows" "size" "I" ∈ wsX4_fooledChildren := by decide +kernel
def w_foolIt_st (wd : WT) (k : Nat) (fo : Int32) : Int32 := if (w_isSame wd (nI k)) = true then if (w_ofAsked wd (nI k) 6) = 0 then fo else fo ||| ((1 : Int32) <<< ((f_at 5 (wAn wd) (nI k) 0) &&& 31)) else fo
def w_foolIt (wd : WT) (fo0 : Int32) : Nat → Int32
  | 0 => fo0
  | k + 1 => w_foolIt_st wd k (w_foolIt wd fo0 k)
def w_fooledChildren (wd : WT) : Int32 := (w_foolIt wd 0 ((wAn wd).1))
set_option maxHeartbeats 4000000 in
set_option maxRecDepth 100000 in
theorem c_X4_fooledChildren (l : Launch) (G : GG) (ad : Nat → Nat) (wd : WT)  : Met l yX4_fooledChildren wsX4_fooledChildren { frames := 2, cells := 0, slots := 0, locals := 44 } (roP G [.ref (ad 0)] (fun H => WAt G ad wd H)) (roQ (some (.int (w_fooledChildren wd)))) 0 0 nF := by
  refine Met.ofW (cc := cX4_fooledChildren) (maxL := 3) (ret := (some .int)) (by decide) rfl ?_
  intro p e s m args below meth c s₁ Bd hml hv
  obtain ⟨rfl, hK, hB⟩ := hv
  have hx := Bd.exec
  have hb := Bd.bytes
  have hr := Bd.returns
  have hts := atoms_spec (ws := wsX4_fooledChildren) Bd.pre
  have hown : s.vm.findClass RX4 = some m.cls := findClass_of_methodNamed Bd.named
  have hlocks := Bd.notSynchronized
  have hC : CallFix p m c cX4_fooledChildren 3 s _ wsX4_fooledChildren RX4 := ⟨hx, hb, hml, hown, hts⟩
  have hl := lv_entry ([.ref (ad 0)]) (n := 3) (Nat.le_of_ble_eq_true rfl)
  rw [lg_entry_eq]
  generalize (lg_sl ([.ref (ad 0)]) ++ List.replicate (3 - (lg_sl ([.ref (ad 0)])).length) Slot.unset).toArray = ls at hl ⊢
  have hl : lv_has ls 3 [(0, .ref (ad 0))] := hl
  have hW := hB
  obtain ⟨f_o, f_ch, f_as, f_an, f_tp, ⟨qf, f_q, hqf⟩, f_lw, hlc⟩ := hB
  refine lv_iconst (v := 0) hx hb dX4_fooledChildren_0 (by decide) ?_
  refine lv_istore_n (lv' := [(1, .int 0), (0, .ref (ad 0))]) hx hb dX4_fooledChildren_1 rfl hl (by decide) rfl (fun ls hl => ?_)
  refine lv_iconst (v := 0) hx hb dX4_fooledChildren_2 (by decide) ?_
  refine lv_istore_n (lv' := [(2, .int 0), (1, .int 0), (0, .ref (ad 0))]) hx hb dX4_fooledChildren_3 rfl hl (by decide) rfl (fun ls hl => ?_)
  refine loop_at (nL := 3) (fun k : Nat => [(0, .ref (ad 0)), (1, .int (w_foolIt wd 0 k)), (2, .int (nI k))]) (fun k => k ≤ (wAn wd).1) (fun k => (wAn wd).1 - k) 0 (Nat.zero_le _) (lv_sub hl [2, 1, 0] rfl) (fun k hk_k ih_k ls hl => ?_)
  have hl : lv_has ls 3 [(0, .ref (ad 0)), (1, .int (w_foolIt wd 0 k)), (2, .int (nI k))] := hl
  refine lv_iload_n hx hb dX4_fooledChildren_4 rfl (lv_at hl 2 rfl) ?_
  refine lv_aload_n hx hb dX4_fooledChildren_5 rfl (lv_at hl 0 rfl) ?_
  refine r_get (C := RX4) (T := TX4) (N := 6) hx hb hts i_X4_fooledChildren_X4 hown hK f_o rfl 2 (by decide) k_X4_fooledChildren_fieldLink_23 rfl rfl dX4_fooledChildren_6 ?_
  refine r_get (C := RX2) (T := TX2) (N := 4) hx hb hts i_X4_fooledChildren_X2 hown hK f_an.1 rfl 3 (by decide) k_X4_fooledChildren_fieldLink_63 rfl rfl dX4_fooledChildren_9 ?_
  refine lv_icmp_ge (tgt := 53) hx hb dX4_fooledChildren_12 (by decide) (fun h_1 => ?_) (fun h_1 => ?_)
  · have hN_k : k = (wAn wd).1 := ge_ex (N := (wAn wd).1) rfl h_1 hk_k (by have := f_an.2.2.1; omega)
    subst hN_k
    refine lv_iload_n hx hb dX4_fooledChildren_53 rfl (lv_at hl 1 rfl) ?_
    exact ro_iret hx hb hr hlocks dX4_fooledChildren_54 rfl
  · have hlt_k : k < (wAn wd).1 := ge_in (N := (wAn wd).1) rfl h_1 hk_k (by have := f_an.2.2.1; omega)
    refine lv_aload_n hx hb dX4_fooledChildren_15 rfl (lv_at hl 0 rfl) ?_
    refine lv_iload_n hx hb dX4_fooledChildren_16 rfl (lv_at hl 2 rfl) ?_
    refine ro_call (va_runV (As := [.int (nI k)]) (rest := []) hC (c_X4_isSame l G ad wd (nI k)) (cwV 1 hts gX4_fooledChildren_X4_isSame rfl rfl rfl kd_X4_isSame ⟨Nat.le_of_ble_eq_true rfl, Nat.le_of_ble_eq_true rfl⟩) (ro_preV hK f_o rfl hW) rfl rfl hl.1 rfl (lv_room (Nat.le_of_ble_eq_true rfl)) dX4_fooledChildren_17 ⟨Nat.zero_le _, Nat.zero_le _⟩) ?_
    refine join_at (nL := 3) 47 [(0, .ref (ad 0)), (1, .int (if (w_isSame wd (nI k)) = true then if (w_ofAsked wd (nI k) 6) = 0 then (w_foolIt wd 0 k) else (w_foolIt wd 0 k) ||| ((1 : Int32) <<< ((f_at 5 (wAn wd) (nI k) 0) &&& 31)) else (w_foolIt wd 0 k))), (2, .int (nI k))] [] (fun ls hl => ?_) (fun J_2 => ?_)
    · refine lv_iinc (v := (nI k) + 1) (lv' := [(2, .int ((nI k) + 1)), (0, .ref (ad 0)), (1, .int (if (w_isSame wd (nI k)) = true then if (w_ofAsked wd (nI k) 6) = 0 then (w_foolIt wd 0 k) else (w_foolIt wd 0 k) ||| ((1 : Int32) <<< ((f_at 5 (wAn wd) (nI k) 0) &&& 31)) else (w_foolIt wd 0 k)))]) hx hb dX4_fooledChildren_47 hl (k := 2) rfl rfl (by decide) rfl (fun ls hl => ?_)
      refine lv_goto (tgt := 4) hx hb dX4_fooledChildren_50 (by decide) ?_
      have hE : (w_foolIt wd 0 (k + 1)) = if (w_isSame wd (nI k)) = true then if (w_ofAsked wd (nI k) 6) = 0 then (w_foolIt wd 0 k) else (w_foolIt wd 0 k) ||| ((1 : Int32) <<< ((f_at 5 (wAn wd) (nI k) 0) &&& 31)) else (w_foolIt wd 0 k) := (by show w_foolIt_st wd k (w_foolIt wd 0 k) = _; (try unfold w_foolIt_st); first | done | rfl)
      refine ih_k (k + 1) (show k + 1 ≤ (wAn wd).1 by omega) (by omega) ls ?_
      show lv_has ls 3 [(0, .ref (ad 0)), (1, .int (w_foolIt wd 0 (k + 1))), (2, .int (nI (k + 1)))]
      rw [nI_succ, hE]
      exact lv_sub hl [1, 2, 0] rfl
    · refine bz_eq (tgt := 47) hx hb dX4_fooledChildren_20 (by decide) (fun h_3 => ?_) (fun h_3 => ?_)
      · have hJ := J_2; (repeat rw [if_neg h_3] at hJ)
        first | exact hJ ls (lv_sub hl [0, 1, 2] rfl) | ((repeat rw [if_neg h_3] at hl); (repeat rw [if_neg h_3]); exact hJ ls (lv_sub hl [0, 1, 2] rfl))
      · refine lv_aload_n hx hb dX4_fooledChildren_23 rfl (lv_at hl 0 rfl) ?_
        refine lv_iload_n hx hb dX4_fooledChildren_24 rfl (lv_at hl 2 rfl) ?_
        refine lv_bipush (v := 6) hx hb dX4_fooledChildren_25 (by decide +kernel) ?_
        refine ro_call (va_runV (As := [.int (nI k), .int 6]) (rest := []) hC (c_X4_ofAsked l G ad wd (nI k) 6) (cwV 2 hts gX4_fooledChildren_X4_ofAsked rfl rfl rfl kd_X4_ofAsked ⟨Nat.le_of_ble_eq_true rfl, Nat.le_of_ble_eq_true rfl⟩) (ro_preV hK f_o rfl hW) rfl rfl hl.1 rfl (lv_room (Nat.le_of_ble_eq_true rfl)) dX4_fooledChildren_27 ⟨Nat.zero_le _, Nat.zero_le _⟩) ?_
        refine lv_if_eq (tgt := 47) hx hb dX4_fooledChildren_30 (by decide) (fun h_4 => ?_) (fun h_4 => ?_)
        · have hJ := J_2; (repeat rw [if_pos h_3] at hJ); (repeat rw [if_pos h_4] at hJ)
          first | exact hJ ls (lv_sub hl [0, 1, 2] rfl) | ((repeat rw [if_pos h_3] at hl); (repeat rw [if_pos h_4] at hl); (repeat rw [if_pos h_3]); (repeat rw [if_pos h_4]); exact hJ ls (lv_sub hl [0, 1, 2] rfl))
        · refine lv_iload_n hx hb dX4_fooledChildren_33 rfl (lv_at hl 1 rfl) ?_
          refine lv_iconst (v := 1) hx hb dX4_fooledChildren_34 (by decide) ?_
          refine lv_aload_n hx hb dX4_fooledChildren_35 rfl (lv_at hl 0 rfl) ?_
          refine r_get (C := RX4) (T := TX4) (N := 6) hx hb hts i_X4_fooledChildren_X4 hown hK f_o rfl 2 (by decide) k_X4_fooledChildren_fieldLink_23 rfl rfl dX4_fooledChildren_36 ?_
          refine lv_iload_n hx hb dX4_fooledChildren_39 rfl (lv_at hl 2 rfl) ?_
          refine lv_iconst (v := 0) hx hb dX4_fooledChildren_40 (by decide) ?_
          refine ro_call (va_runV (As := [.int (nI k), .int 0]) (rest := [.int 1, .int (w_foolIt wd 0 k)]) hC (c_X2_at l G (ad 5) (ad 6) 40 5 (wAn wd) (nI k) 0) (cwV 2 hts gX4_fooledChildren_X2_at rfl rfl rfl kd_X2_at ⟨Nat.le_of_ble_eq_true rfl, Nat.le_of_ble_eq_true rfl⟩) (ro_preV hK f_an.1 rfl f_an) rfl rfl hl.1 rfl (lv_room (Nat.le_of_ble_eq_true rfl)) dX4_fooledChildren_41 ⟨Nat.zero_le _, Nat.zero_le _⟩) ?_
          refine lv_ishl hx hb dX4_fooledChildren_44 ?_
          refine lv_ior hx hb dX4_fooledChildren_45 ?_
          refine lv_istore_n (lv' := [(1, .int ((w_foolIt wd 0 k) ||| ((1 : Int32) <<< ((f_at 5 (wAn wd) (nI k) 0) &&& 31)))), (0, .ref (ad 0)), (2, .int (nI k))]) hx hb dX4_fooledChildren_46 rfl hl (by decide) rfl (fun ls hl => ?_)
          have hJ := J_2; (repeat rw [if_pos h_3] at hJ); (repeat rw [if_neg h_4] at hJ)
          first | exact hJ ls (lv_sub hl [1, 0, 2] rfl) | ((repeat rw [if_pos h_3] at hl); (repeat rw [if_neg h_4] at hl); (repeat rw [if_pos h_3]); (repeat rw [if_neg h_4]); exact hJ ls (lv_sub hl [1, 0, 2] rfl))
theorem i_X4_stepOf_X4 : ∀ w ∈ wsX40, w ∈ wsX4_stepOf := fun _ h => List.mem_cons_of_mem _ (List.mem_append_left _ (List.mem_append_right _ h))
theorem k_X4_stepOf_fieldLink_23 : Cond.fieldLink RX4 23 "SameWater$World" "answers" "LSameWater$Rows;" ∈ wsX4_stepOf := by decide +kernel
theorem i_X4_stepOf_X2 : ∀ w ∈ wsX20, w ∈ wsX4_stepOf := fun _ h => List.mem_cons_of_mem _ (List.mem_append_right _ h)
theorem k_X4_stepOf_fieldLink_63 : Cond.fieldLink RX4 63 "SameWater$Rows" "size" "I" ∈ wsX4_stepOf := by decide +kernel
def w_stepGo (wd : WT) (child stuff : Int32) : Nat → Nat → Int32 → Int32
  | 0, _, sp => sp
  | n + 1, k, sp => if (if (f_at 5 (wAn wd) (nI k) 0) = child then if (w_ofAsked wd (nI k) 0) = stuff then if (w_ofAsked wd (nI k) 6) = 0 then true else false else false else false) = true then if (w_isSame wd (nI k)) = true then w_stepGo wd child stuff n (k + 1) (if (if (f_at 5 (wAn wd) (nI k) 0) = child then if (w_ofAsked wd (nI k) 0) = stuff then if (w_ofAsked wd (nI k) 6) = 0 then true else false else false else false) = true then 1 else sp) else 2 else w_stepGo wd child stuff n (k + 1) (if (if (f_at 5 (wAn wd) (nI k) 0) = child then if (w_ofAsked wd (nI k) 0) = stuff then if (w_ofAsked wd (nI k) 6) = 0 then true else false else false else false) = true then 1 else sp)
theorem w_stepGo_0 (wd : WT) (child stuff : Int32) (k : Nat) (sp : Int32) : w_stepGo wd child stuff 0 k sp = (sp) := rfl
theorem w_stepGo_s (wd : WT) (child stuff : Int32) (n k : Nat) (sp : Int32) : w_stepGo wd child stuff (n + 1) k sp = (if (if (f_at 5 (wAn wd) (nI k) 0) = child then if (w_ofAsked wd (nI k) 0) = stuff then if (w_ofAsked wd (nI k) 6) = 0 then true else false else false else false) = true then if (w_isSame wd (nI k)) = true then w_stepGo wd child stuff n (k + 1) (if (if (f_at 5 (wAn wd) (nI k) 0) = child then if (w_ofAsked wd (nI k) 0) = stuff then if (w_ofAsked wd (nI k) 6) = 0 then true else false else false else false) = true then 1 else sp) else 2 else w_stepGo wd child stuff n (k + 1) (if (if (f_at 5 (wAn wd) (nI k) 0) = child then if (w_ofAsked wd (nI k) 0) = stuff then if (w_ofAsked wd (nI k) 6) = 0 then true else false else false else false) = true then 1 else sp)) := rfl
def w_stepOf (wd : WT) (child : Int32) (stuff : Int32) : Int32 := w_stepGo wd child stuff ((wAn wd).1) 0 0
set_option maxHeartbeats 4000000 in
set_option maxRecDepth 100000 in
theorem c_X4_stepOf (l : Launch) (G : GG) (ad : Nat → Nat) (wd : WT) (child : Int32) (stuff : Int32)  : Met l yX4_stepOf wsX4_stepOf { frames := 2, cells := 0, slots := 0, locals := 44 } (roP G [.ref (ad 0), .int child, .int stuff] (fun H => WAt G ad wd H)) (roQ (some (.int (w_stepOf wd child stuff)))) 0 0 nF := by
  refine Met.ofW (cc := cX4_stepOf) (maxL := 6) (ret := (some .int)) (by decide) rfl ?_
  intro p e s m args below meth c s₁ Bd hml hv
  obtain ⟨rfl, hK, hB⟩ := hv
  have hx := Bd.exec
  have hb := Bd.bytes
  have hr := Bd.returns
  have hts := atoms_spec (ws := wsX4_stepOf) Bd.pre
  have hown : s.vm.findClass RX4 = some m.cls := findClass_of_methodNamed Bd.named
  have hlocks := Bd.notSynchronized
  have hC : CallFix p m c cX4_stepOf 6 s _ wsX4_stepOf RX4 := ⟨hx, hb, hml, hown, hts⟩
  have hl := lv_entry ([.ref (ad 0), .int child, .int stuff]) (n := 6) (Nat.le_of_ble_eq_true rfl)
  rw [lg_entry_eq]
  generalize (lg_sl ([.ref (ad 0), .int child, .int stuff]) ++ List.replicate (6 - (lg_sl ([.ref (ad 0), .int child, .int stuff])).length) Slot.unset).toArray = ls at hl ⊢
  have hl : lv_has ls 6 [(0, .ref (ad 0)), (1, .int child), (2, .int stuff)] := hl
  have hW := hB
  obtain ⟨f_o, f_ch, f_as, f_an, f_tp, ⟨qf, f_q, hqf⟩, f_lw, hlc⟩ := hB
  refine lv_iconst (v := 0) hx hb dX4_stepOf_0 (by decide) ?_
  refine lv_istore_n (lv' := [(3, .int 0), (0, .ref (ad 0)), (1, .int child), (2, .int stuff)]) hx hb dX4_stepOf_1 rfl hl (by decide) rfl (fun ls hl => ?_)
  refine lv_iconst (v := 0) hx hb dX4_stepOf_2 (by decide) ?_
  refine lv_istore (lv' := [(4, .int 0), (3, .int 0), (0, .ref (ad 0)), (1, .int child), (2, .int stuff)]) hx hb dX4_stepOf_3 hl (by decide) rfl (fun ls hl => ?_)
  refine loop_at (nL := 6) (α := Nat × Int32) (fun a9 => [(0, .ref (ad 0)), (1, .int child), (2, .int stuff), (3, .int (a9.2)), (4, .int (nI (a9.1)))]) (fun a9 => a9.1 ≤ (wAn wd).1 ∧ w_stepGo wd child stuff (((wAn wd).1) - a9.1) a9.1 a9.2 = w_stepGo wd child stuff ((wAn wd).1) 0 0) (fun a9 => (wAn wd).1 - a9.1) (0, 0) ⟨(by first | exact Nat.zero_le _ | decide | omega), rfl⟩ (lv_sub hl [2, 3, 4, 1, 0] rfl) (fun a9 hI9 ih_k ls hl => ?_)
  obtain ⟨k, sp⟩ := a9
  obtain ⟨hk_k, hV⟩ : k ≤ (wAn wd).1 ∧ w_stepGo wd child stuff (((wAn wd).1) - k) k sp = w_stepGo wd child stuff ((wAn wd).1) 0 0 := hI9
  have hl : lv_has ls 6 [(0, .ref (ad 0)), (1, .int child), (2, .int stuff), (3, .int sp), (4, .int (nI k))] := hl
  refine lv_iload hx hb dX4_stepOf_5 (lv_at hl 4 rfl) ?_
  refine lv_aload_n hx hb dX4_stepOf_7 rfl (lv_at hl 0 rfl) ?_
  refine r_get (C := RX4) (T := TX4) (N := 6) hx hb hts i_X4_stepOf_X4 hown hK f_o rfl 2 (by decide) k_X4_stepOf_fieldLink_23 rfl rfl dX4_stepOf_8 ?_
  refine r_get (C := RX2) (T := TX2) (N := 4) hx hb hts i_X4_stepOf_X2 hown hK f_an.1 rfl 3 (by decide) k_X4_stepOf_fieldLink_63 rfl rfl dX4_stepOf_11 ?_
  refine lv_icmp_ge (tgt := 89) hx hb dX4_stepOf_14 (by decide) (fun h_1 => ?_) (fun h_1 => ?_)
  · have hN_k : k = (wAn wd).1 := ge_ex (N := (wAn wd).1) rfl h_1 hk_k (by have := f_an.2.2.1; omega)
    subst hN_k
    rw [Nat.sub_self] at hV
    refine lv_iload_n hx hb dX4_stepOf_89 rfl (lv_at hl 3 rfl) ?_
    exact ro_iret hx hb hr hlocks dX4_stepOf_90 (by (try unfold w_stepOf); rw [← hV, w_stepGo_0]; first | done | rfl)
  · have hlt_k : k < (wAn wd).1 := ge_in (N := (wAn wd).1) rfl h_1 hk_k (by have := f_an.2.2.1; omega)
    obtain ⟨n9, hn9⟩ : ∃ n9, ((wAn wd).1) - k = n9 + 1 := ⟨((wAn wd).1) - k - 1, by omega⟩
    rw [hn9] at hV
    refine lv_aload_n hx hb dX4_stepOf_17 rfl (lv_at hl 0 rfl) ?_
    refine r_get (C := RX4) (T := TX4) (N := 6) hx hb hts i_X4_stepOf_X4 hown hK f_o rfl 2 (by decide) k_X4_stepOf_fieldLink_23 rfl rfl dX4_stepOf_18 ?_
    refine lv_iload hx hb dX4_stepOf_21 (lv_at hl 4 rfl) ?_
    refine lv_iconst (v := 0) hx hb dX4_stepOf_23 (by decide) ?_
    refine ro_call (va_runV (As := [.int (nI k), .int 0]) (rest := []) hC (c_X2_at l G (ad 5) (ad 6) 40 5 (wAn wd) (nI k) 0) (cwV 2 hts gX4_stepOf_X2_at rfl rfl rfl kd_X2_at ⟨Nat.le_of_ble_eq_true rfl, Nat.le_of_ble_eq_true rfl⟩) (ro_preV hK f_an.1 rfl f_an) rfl rfl hl.1 rfl (lv_room (Nat.le_of_ble_eq_true rfl)) dX4_stepOf_24 ⟨Nat.zero_le _, Nat.zero_le _⟩) ?_
    refine lv_iload_n hx hb dX4_stepOf_27 rfl (lv_at hl 1 rfl) ?_
    refine join_at (nL := 6) 58 [(0, .ref (ad 0)), (1, .int child), (2, .int stuff), (3, .int sp), (4, .int (nI k))] [.int (b2i (if (f_at 5 (wAn wd) (nI k) 0) = child then if (w_ofAsked wd (nI k) 0) = stuff then if (w_ofAsked wd (nI k) 6) = 0 then true else false else false else false))] (fun ls hl => ?_) (fun J_2 => ?_)
    · refine lv_istore (lv' := [(5, .int (b2i (if (f_at 5 (wAn wd) (nI k) 0) = child then if (w_ofAsked wd (nI k) 0) = stuff then if (w_ofAsked wd (nI k) 6) = 0 then true else false else false else false))), (0, .ref (ad 0)), (1, .int child), (2, .int stuff), (3, .int sp), (4, .int (nI k))]) hx hb dX4_stepOf_58 hl (by decide) rfl (fun ls hl => ?_)
      refine lv_iload hx hb dX4_stepOf_60 (lv_at hl 0 rfl) ?_
      refine bz_eq (tgt := 76) hx hb dX4_stepOf_62 (by decide) (fun h_3 => ?_) (fun h_3 => ?_)
      · refine lv_iload hx hb dX4_stepOf_76 (lv_at hl 0 rfl) ?_
        refine join_at (nL := 6) 83 [(3, .int (if (if (f_at 5 (wAn wd) (nI k) 0) = child then if (w_ofAsked wd (nI k) 0) = stuff then if (w_ofAsked wd (nI k) 6) = 0 then true else false else false else false) = true then 1 else sp)), (5, .int (b2i (if (f_at 5 (wAn wd) (nI k) 0) = child then if (w_ofAsked wd (nI k) 0) = stuff then if (w_ofAsked wd (nI k) 6) = 0 then true else false else false else false))), (0, .ref (ad 0)), (1, .int child), (2, .int stuff), (4, .int (nI k))] [] (fun ls hl => ?_) (fun J_4 => ?_)
        · refine lv_iinc (v := (nI k) + 1) (lv' := [(4, .int ((nI k) + 1)), (3, .int (if (if (f_at 5 (wAn wd) (nI k) 0) = child then if (w_ofAsked wd (nI k) 0) = stuff then if (w_ofAsked wd (nI k) 6) = 0 then true else false else false else false) = true then 1 else sp)), (5, .int (b2i (if (f_at 5 (wAn wd) (nI k) 0) = child then if (w_ofAsked wd (nI k) 0) = stuff then if (w_ofAsked wd (nI k) 6) = 0 then true else false else false else false))), (0, .ref (ad 0)), (1, .int child), (2, .int stuff)]) hx hb dX4_stepOf_83 hl (k := 5) rfl rfl (by decide) rfl (fun ls hl => ?_)
          refine lv_goto (tgt := 5) hx hb dX4_stepOf_86 (by decide) ?_
          have hE : w_stepGo wd child stuff n9 (k + 1) (if (if (f_at 5 (wAn wd) (nI k) 0) = child then if (w_ofAsked wd (nI k) 0) = stuff then if (w_ofAsked wd (nI k) 6) = 0 then true else false else false else false) = true then 1 else sp) = w_stepGo wd child stuff ((wAn wd).1) 0 0 := (by rw [← hV, w_stepGo_s]; (repeat rw [if_neg h_3]); first | done | rfl)
          refine ih_k ((k + 1, if (if (f_at 5 (wAn wd) (nI k) 0) = child then if (w_ofAsked wd (nI k) 0) = stuff then if (w_ofAsked wd (nI k) 6) = 0 then true else false else false else false) = true then 1 else sp)) ⟨(show k + 1 ≤ (wAn wd).1 by omega), (by show w_stepGo wd child stuff (((wAn wd).1) - (k + 1)) (k + 1) (if (if (f_at 5 (wAn wd) (nI k) 0) = child then if (w_ofAsked wd (nI k) 0) = stuff then if (w_ofAsked wd (nI k) 6) = 0 then true else false else false else false) = true then 1 else sp) = _; rw [show ((wAn wd).1) - (k + 1) = n9 by omega]; exact hE)⟩ (show ((wAn wd).1) - (k + 1) < ((wAn wd).1) - k by omega) ls ?_
          show lv_has ls 6 [(0, .ref (ad 0)), (1, .int child), (2, .int stuff), (3, .int (if (if (f_at 5 (wAn wd) (nI k) 0) = child then if (w_ofAsked wd (nI k) 0) = stuff then if (w_ofAsked wd (nI k) 6) = 0 then true else false else false else false) = true then 1 else sp)), (4, .int (nI (k + 1)))]
          rw [nI_succ]
          exact lv_sub hl [3, 4, 5, 1, 0] rfl
        · refine bz_eq (tgt := 83) hx hb dX4_stepOf_78 (by decide) (fun h_5 => ?_) (fun h_5 => ?_)
          · have hJ := J_4; (repeat rw [if_neg h_5] at hJ)
            first | exact hJ ls (lv_sub hl [4, 0, 1, 2, 3, 5] rfl) | ((repeat rw [if_neg h_5] at hl); (repeat rw [if_neg h_5]); exact hJ ls (lv_sub hl [4, 0, 1, 2, 3, 5] rfl))
          · refine lv_iconst (v := 1) hx hb dX4_stepOf_81 (by decide) ?_
            refine lv_istore_n (lv' := [(3, .int 1), (5, .int (b2i (if (f_at 5 (wAn wd) (nI k) 0) = child then if (w_ofAsked wd (nI k) 0) = stuff then if (w_ofAsked wd (nI k) 6) = 0 then true else false else false else false))), (0, .ref (ad 0)), (1, .int child), (2, .int stuff), (4, .int (nI k))]) hx hb dX4_stepOf_82 rfl hl (by decide) rfl (fun ls hl => ?_)
            have hJ := J_4; (repeat rw [if_pos h_5] at hJ)
            first | exact hJ ls (lv_sub hl [0, 1, 2, 3, 4, 5] rfl) | ((repeat rw [if_pos h_5] at hl); (repeat rw [if_pos h_5]); exact hJ ls (lv_sub hl [0, 1, 2, 3, 4, 5] rfl))
      · refine lv_aload_n hx hb dX4_stepOf_65 rfl (lv_at hl 1 rfl) ?_
        refine lv_iload hx hb dX4_stepOf_66 (lv_at hl 5 rfl) ?_
        refine ro_call (va_runV (As := [.int (nI k)]) (rest := []) hC (c_X4_isSame l G ad wd (nI k)) (cwV 1 hts gX4_stepOf_X4_isSame rfl rfl rfl kd_X4_isSame ⟨Nat.le_of_ble_eq_true rfl, Nat.le_of_ble_eq_true rfl⟩) (ro_preV hK f_o rfl hW) rfl rfl hl.1 rfl (lv_room (Nat.le_of_ble_eq_true rfl)) dX4_stepOf_68 ⟨Nat.zero_le _, Nat.zero_le _⟩) ?_
        refine bz_ne (tgt := 76) hx hb dX4_stepOf_71 (by decide) (fun h_6 => ?_) (fun h_6 => ?_)
        · refine lv_iload hx hb dX4_stepOf_76 (lv_at hl 0 rfl) ?_
          refine join_at (nL := 6) 83 [(3, .int (if (if (f_at 5 (wAn wd) (nI k) 0) = child then if (w_ofAsked wd (nI k) 0) = stuff then if (w_ofAsked wd (nI k) 6) = 0 then true else false else false else false) = true then 1 else sp)), (5, .int (b2i (if (f_at 5 (wAn wd) (nI k) 0) = child then if (w_ofAsked wd (nI k) 0) = stuff then if (w_ofAsked wd (nI k) 6) = 0 then true else false else false else false))), (0, .ref (ad 0)), (1, .int child), (2, .int stuff), (4, .int (nI k))] [] (fun ls hl => ?_) (fun J_7 => ?_)
          · refine lv_iinc (v := (nI k) + 1) (lv' := [(4, .int ((nI k) + 1)), (3, .int (if (if (f_at 5 (wAn wd) (nI k) 0) = child then if (w_ofAsked wd (nI k) 0) = stuff then if (w_ofAsked wd (nI k) 6) = 0 then true else false else false else false) = true then 1 else sp)), (5, .int (b2i (if (f_at 5 (wAn wd) (nI k) 0) = child then if (w_ofAsked wd (nI k) 0) = stuff then if (w_ofAsked wd (nI k) 6) = 0 then true else false else false else false))), (0, .ref (ad 0)), (1, .int child), (2, .int stuff)]) hx hb dX4_stepOf_83 hl (k := 5) rfl rfl (by decide) rfl (fun ls hl => ?_)
            refine lv_goto (tgt := 5) hx hb dX4_stepOf_86 (by decide) ?_
            have hE : w_stepGo wd child stuff n9 (k + 1) (if (if (f_at 5 (wAn wd) (nI k) 0) = child then if (w_ofAsked wd (nI k) 0) = stuff then if (w_ofAsked wd (nI k) 6) = 0 then true else false else false else false) = true then 1 else sp) = w_stepGo wd child stuff ((wAn wd).1) 0 0 := (by rw [← hV, w_stepGo_s]; (repeat rw [if_pos h_3]); (repeat rw [if_pos h_6]); first | done | rfl)
            refine ih_k ((k + 1, if (if (f_at 5 (wAn wd) (nI k) 0) = child then if (w_ofAsked wd (nI k) 0) = stuff then if (w_ofAsked wd (nI k) 6) = 0 then true else false else false else false) = true then 1 else sp)) ⟨(show k + 1 ≤ (wAn wd).1 by omega), (by show w_stepGo wd child stuff (((wAn wd).1) - (k + 1)) (k + 1) (if (if (f_at 5 (wAn wd) (nI k) 0) = child then if (w_ofAsked wd (nI k) 0) = stuff then if (w_ofAsked wd (nI k) 6) = 0 then true else false else false else false) = true then 1 else sp) = _; rw [show ((wAn wd).1) - (k + 1) = n9 by omega]; exact hE)⟩ (show ((wAn wd).1) - (k + 1) < ((wAn wd).1) - k by omega) ls ?_
            show lv_has ls 6 [(0, .ref (ad 0)), (1, .int child), (2, .int stuff), (3, .int (if (if (f_at 5 (wAn wd) (nI k) 0) = child then if (w_ofAsked wd (nI k) 0) = stuff then if (w_ofAsked wd (nI k) 6) = 0 then true else false else false else false) = true then 1 else sp)), (4, .int (nI (k + 1)))]
            rw [nI_succ]
            exact lv_sub hl [3, 4, 5, 1, 0] rfl
          · refine bz_eq (tgt := 83) hx hb dX4_stepOf_78 (by decide) (fun h_8 => ?_) (fun h_8 => ?_)
            · have hJ := J_7; (repeat rw [if_neg h_8] at hJ)
              first | exact hJ ls (lv_sub hl [4, 0, 1, 2, 3, 5] rfl) | ((repeat rw [if_neg h_8] at hl); (repeat rw [if_neg h_8]); exact hJ ls (lv_sub hl [4, 0, 1, 2, 3, 5] rfl))
            · refine lv_iconst (v := 1) hx hb dX4_stepOf_81 (by decide) ?_
              refine lv_istore_n (lv' := [(3, .int 1), (5, .int (b2i (if (f_at 5 (wAn wd) (nI k) 0) = child then if (w_ofAsked wd (nI k) 0) = stuff then if (w_ofAsked wd (nI k) 6) = 0 then true else false else false else false))), (0, .ref (ad 0)), (1, .int child), (2, .int stuff), (4, .int (nI k))]) hx hb dX4_stepOf_82 rfl hl (by decide) rfl (fun ls hl => ?_)
              have hJ := J_7; (repeat rw [if_pos h_8] at hJ)
              first | exact hJ ls (lv_sub hl [0, 1, 2, 3, 4, 5] rfl) | ((repeat rw [if_pos h_8] at hl); (repeat rw [if_pos h_8]); exact hJ ls (lv_sub hl [0, 1, 2, 3, 4, 5] rfl))
        · refine lv_iconst (v := 2) hx hb dX4_stepOf_74 (by decide) ?_
          exact ro_iret hx hb hr hlocks dX4_stepOf_75 (by (try unfold w_stepOf); rw [← hV, w_stepGo_s]; (repeat rw [if_neg h_1]); (repeat rw [if_pos h_3]); (repeat rw [if_neg h_6]); first | done | rfl)
    · refine lv_icmp_ne (tgt := 57) hx hb dX4_stepOf_28 (by decide) (fun h_9 => ?_) (fun h_9 => ?_)
      · refine lv_iconst (v := 0) hx hb dX4_stepOf_57 (by decide) ?_
        have hJ := J_2; (repeat rw [if_neg h_9] at hJ)
        first | exact hJ ls (lv_sub hl [0, 1, 2, 3, 4] rfl) | ((repeat rw [if_neg h_9] at hl); (repeat rw [if_neg h_9]); exact hJ ls (lv_sub hl [0, 1, 2, 3, 4] rfl))
      · refine lv_aload_n hx hb dX4_stepOf_31 rfl (lv_at hl 0 rfl) ?_
        refine lv_iload hx hb dX4_stepOf_32 (lv_at hl 4 rfl) ?_
        refine lv_iconst (v := 0) hx hb dX4_stepOf_34 (by decide) ?_
        refine ro_call (va_runV (As := [.int (nI k), .int 0]) (rest := []) hC (c_X4_ofAsked l G ad wd (nI k) 0) (cwV 2 hts gX4_stepOf_X4_ofAsked rfl rfl rfl kd_X4_ofAsked ⟨Nat.le_of_ble_eq_true rfl, Nat.le_of_ble_eq_true rfl⟩) (ro_preV hK f_o rfl hW) rfl rfl hl.1 rfl (lv_room (Nat.le_of_ble_eq_true rfl)) dX4_stepOf_35 ⟨Nat.zero_le _, Nat.zero_le _⟩) ?_
        refine lv_iload_n hx hb dX4_stepOf_38 rfl (lv_at hl 2 rfl) ?_
        refine lv_icmp_ne (tgt := 57) hx hb dX4_stepOf_39 (by decide) (fun h_10 => ?_) (fun h_10 => ?_)
        · refine lv_iconst (v := 0) hx hb dX4_stepOf_57 (by decide) ?_
          have hJ := J_2; (repeat rw [if_pos h_9] at hJ); (repeat rw [if_neg h_10] at hJ)
          first | exact hJ ls (lv_sub hl [0, 1, 2, 3, 4] rfl) | ((repeat rw [if_pos h_9] at hl); (repeat rw [if_neg h_10] at hl); (repeat rw [if_pos h_9]); (repeat rw [if_neg h_10]); exact hJ ls (lv_sub hl [0, 1, 2, 3, 4] rfl))
        · refine lv_aload_n hx hb dX4_stepOf_42 rfl (lv_at hl 0 rfl) ?_
          refine lv_iload hx hb dX4_stepOf_43 (lv_at hl 4 rfl) ?_
          refine lv_bipush (v := 6) hx hb dX4_stepOf_45 (by decide +kernel) ?_
          refine ro_call (va_runV (As := [.int (nI k), .int 6]) (rest := []) hC (c_X4_ofAsked l G ad wd (nI k) 6) (cwV 2 hts gX4_stepOf_X4_ofAsked rfl rfl rfl kd_X4_ofAsked ⟨Nat.le_of_ble_eq_true rfl, Nat.le_of_ble_eq_true rfl⟩) (ro_preV hK f_o rfl hW) rfl rfl hl.1 rfl (lv_room (Nat.le_of_ble_eq_true rfl)) dX4_stepOf_47 ⟨Nat.zero_le _, Nat.zero_le _⟩) ?_
          refine lv_if_ne (tgt := 57) hx hb dX4_stepOf_50 (by decide) (fun h_11 => ?_) (fun h_11 => ?_)
          · refine lv_iconst (v := 0) hx hb dX4_stepOf_57 (by decide) ?_
            have hJ := J_2; (repeat rw [if_pos h_9] at hJ); (repeat rw [if_pos h_10] at hJ); (repeat rw [if_neg h_11] at hJ)
            first | exact hJ ls (lv_sub hl [0, 1, 2, 3, 4] rfl) | ((repeat rw [if_pos h_9] at hl); (repeat rw [if_pos h_10] at hl); (repeat rw [if_neg h_11] at hl); (repeat rw [if_pos h_9]); (repeat rw [if_pos h_10]); (repeat rw [if_neg h_11]); exact hJ ls (lv_sub hl [0, 1, 2, 3, 4] rfl))
          · refine lv_iconst (v := 1) hx hb dX4_stepOf_53 (by decide) ?_
            refine lv_goto (tgt := 58) hx hb dX4_stepOf_54 (by decide) ?_
            have hJ := J_2; (repeat rw [if_pos h_9] at hJ); (repeat rw [if_pos h_10] at hJ); (repeat rw [if_pos h_11] at hJ)
            first | exact hJ ls (lv_sub hl [0, 1, 2, 3, 4] rfl) | ((repeat rw [if_pos h_9] at hl); (repeat rw [if_pos h_10] at hl); (repeat rw [if_pos h_11] at hl); (repeat rw [if_pos h_9]); (repeat rw [if_pos h_10]); (repeat rw [if_pos h_11]); exact hJ ls (lv_sub hl [0, 1, 2, 3, 4] rfl))
theorem kd_X4_stepOf : yX4_stepOf.cls = RX4 ∧ yX4_stepOf.cls ≠ "java/lang/invoke/MethodHandle" ∧ yX4_stepOf.cls ≠ "java/lang/invoke/VarHandle" ∧ (parseMethodDescriptor yX4_stepOf.desc).map (fun d => d.parameters.length) = some 2 := by decide +kernel
def w_onceIt_st (wd : WT) (child : Int32) (k : Nat) (sh : Int32) (mi : Int32) : Int32 × Int32 := (sh + (b2i (if (w_stepOf wd child (nI k)) = 1 then true else false)), mi + (b2i (if (w_stepOf wd child (nI k)) = 2 then true else false)))
def w_onceIt (wd : WT) (child : Int32) (sh0 : Int32) (mi0 : Int32) : Nat → Int32 × Int32
  | 0 => (sh0, mi0)
  | k + 1 => w_onceIt_st wd child k ((w_onceIt wd child sh0 mi0 k).1) ((w_onceIt wd child sh0 mi0 k).2)
def w_isAllAtOnce (wd : WT) (child : Int32) : Bool := (if (((w_onceIt wd child 0 0 4).1) + ((w_onceIt wd child 0 0 4).2)) < 2 then false else if (w_onceIt wd child 0 0 4).1 = 0 then true else if (w_onceIt wd child 0 0 4).2 = 0 then true else false)
set_option maxHeartbeats 4000000 in
set_option maxRecDepth 100000 in
theorem c_X4_isAllAtOnce (l : Launch) (G : GG) (ad : Nat → Nat) (wd : WT) (child : Int32)  : Met l yX4_isAllAtOnce wsX4_isAllAtOnce { frames := 3, cells := 0, slots := 0, locals := 69 } (roP G [.ref (ad 0), .int child] (fun H => WAt G ad wd H)) (roQ (some (.int (b2i (w_isAllAtOnce wd child))))) 0 0 nF := by
  refine Met.ofW (cc := cX4_isAllAtOnce) (maxL := 6) (ret := (some .boolean)) (by decide) rfl ?_
  intro p e s m args below meth c s₁ Bd hml hv
  obtain ⟨rfl, hK, hB⟩ := hv
  have hx := Bd.exec
  have hb := Bd.bytes
  have hr := Bd.returns
  have hts := atoms_spec (ws := wsX4_isAllAtOnce) Bd.pre
  have hown : s.vm.findClass RX4 = some m.cls := findClass_of_methodNamed Bd.named
  have hlocks := Bd.notSynchronized
  have hC : CallFix p m c cX4_isAllAtOnce 6 s _ wsX4_isAllAtOnce RX4 := ⟨hx, hb, hml, hown, hts⟩
  have hl := lv_entry ([.ref (ad 0), .int child]) (n := 6) (Nat.le_of_ble_eq_true rfl)
  rw [lg_entry_eq]
  generalize (lg_sl ([.ref (ad 0), .int child]) ++ List.replicate (6 - (lg_sl ([.ref (ad 0), .int child])).length) Slot.unset).toArray = ls at hl ⊢
  have hl : lv_has ls 6 [(0, .ref (ad 0)), (1, .int child)] := hl
  have hW := hB
  obtain ⟨f_o, f_ch, f_as, f_an, f_tp, ⟨qf, f_q, hqf⟩, f_lw, hlc⟩ := hB
  refine lv_iconst (v := 0) hx hb dX4_isAllAtOnce_0 (by decide) ?_
  refine lv_istore_n (lv' := [(2, .int 0), (0, .ref (ad 0)), (1, .int child)]) hx hb dX4_isAllAtOnce_1 rfl hl (by decide) rfl (fun ls hl => ?_)
  refine lv_iconst (v := 0) hx hb dX4_isAllAtOnce_2 (by decide) ?_
  refine lv_istore_n (lv' := [(3, .int 0), (2, .int 0), (0, .ref (ad 0)), (1, .int child)]) hx hb dX4_isAllAtOnce_3 rfl hl (by decide) rfl (fun ls hl => ?_)
  refine lv_iconst (v := 0) hx hb dX4_isAllAtOnce_4 (by decide) ?_
  refine lv_istore (lv' := [(4, .int 0), (3, .int 0), (2, .int 0), (0, .ref (ad 0)), (1, .int child)]) hx hb dX4_isAllAtOnce_5 hl (by decide) rfl (fun ls hl => ?_)
  refine loop_at (nL := 6) (fun k : Nat => [(0, .ref (ad 0)), (1, .int child), (2, .int ((w_onceIt wd child 0 0 k).1)), (3, .int ((w_onceIt wd child 0 0 k).2)), (4, .int (nI k))]) (fun k => k ≤ 4) (fun k => 4 - k) 0 (Nat.zero_le _) (lv_sub hl [3, 4, 2, 1, 0] rfl) (fun k hk_k ih_k ls hl => ?_)
  have hl : lv_has ls 6 [(0, .ref (ad 0)), (1, .int child), (2, .int ((w_onceIt wd child 0 0 k).1)), (3, .int ((w_onceIt wd child 0 0 k).2)), (4, .int (nI k))] := hl
  refine lv_iload hx hb dX4_isAllAtOnce_7 (lv_at hl 4 rfl) ?_
  refine lv_iconst (v := 4) hx hb dX4_isAllAtOnce_9 (by decide) ?_
  refine lv_icmp_ge (tgt := 56) hx hb dX4_isAllAtOnce_10 (by decide) (fun h_1 => ?_) (fun h_1 => ?_)
  · have hN_k : k = 4 := ge_ex (N := 4) rfl h_1 hk_k (by omega)
    subst hN_k
    refine lv_iload_n hx hb dX4_isAllAtOnce_56 rfl (lv_at hl 2 rfl) ?_
    refine lv_iload_n hx hb dX4_isAllAtOnce_57 rfl (lv_at hl 3 rfl) ?_
    refine lv_iadd hx hb dX4_isAllAtOnce_58 ?_
    refine lv_iconst (v := 2) hx hb dX4_isAllAtOnce_59 (by decide) ?_
    refine join_at (nL := 6) 76 [(0, .ref (ad 0)), (1, .int child), (2, .int ((w_onceIt wd child 0 0 4).1)), (3, .int ((w_onceIt wd child 0 0 4).2)), (4, .int (nI 4))] [.int (b2i (if (((w_onceIt wd child 0 0 4).1) + ((w_onceIt wd child 0 0 4).2)) < 2 then false else if (w_onceIt wd child 0 0 4).1 = 0 then true else if (w_onceIt wd child 0 0 4).2 = 0 then true else false))] (fun ls hl => ?_) (fun J_2 => ?_)
    · exact ro_zret hx hb hr hlocks dX4_isAllAtOnce_76 rfl
    · refine lv_icmp_lt (tgt := 75) hx hb dX4_isAllAtOnce_60 (by decide) (fun h_3 => ?_) (fun h_3 => ?_)
      · refine lv_iconst (v := 0) hx hb dX4_isAllAtOnce_75 (by decide) ?_
        have hJ := J_2; (repeat rw [if_pos h_3] at hJ)
        first | exact hJ ls (lv_sub hl [0, 1, 2, 3, 4] rfl) | ((repeat rw [if_pos h_3] at hl); (repeat rw [if_pos h_3]); exact hJ ls (lv_sub hl [0, 1, 2, 3, 4] rfl))
      · refine lv_iload_n hx hb dX4_isAllAtOnce_63 rfl (lv_at hl 2 rfl) ?_
        refine lv_if_eq (tgt := 71) hx hb dX4_isAllAtOnce_64 (by decide) (fun h_4 => ?_) (fun h_4 => ?_)
        · refine lv_iconst (v := 1) hx hb dX4_isAllAtOnce_71 (by decide) ?_
          refine lv_goto (tgt := 76) hx hb dX4_isAllAtOnce_72 (by decide) ?_
          have hJ := J_2; (repeat rw [if_neg h_3] at hJ); (repeat rw [if_pos h_4] at hJ)
          first | exact hJ ls (lv_sub hl [0, 1, 2, 3, 4] rfl) | ((repeat rw [if_neg h_3] at hl); (repeat rw [if_pos h_4] at hl); (repeat rw [if_neg h_3]); (repeat rw [if_pos h_4]); exact hJ ls (lv_sub hl [0, 1, 2, 3, 4] rfl))
        · refine lv_iload_n hx hb dX4_isAllAtOnce_67 rfl (lv_at hl 3 rfl) ?_
          refine lv_if_ne (tgt := 75) hx hb dX4_isAllAtOnce_68 (by decide) (fun h_5 => ?_) (fun h_5 => ?_)
          · refine lv_iconst (v := 0) hx hb dX4_isAllAtOnce_75 (by decide) ?_
            have hJ := J_2; (repeat rw [if_neg h_3] at hJ); (repeat rw [if_neg h_4] at hJ); (repeat rw [if_neg h_5] at hJ)
            first | exact hJ ls (lv_sub hl [0, 1, 2, 3, 4] rfl) | ((repeat rw [if_neg h_3] at hl); (repeat rw [if_neg h_4] at hl); (repeat rw [if_neg h_5] at hl); (repeat rw [if_neg h_3]); (repeat rw [if_neg h_4]); (repeat rw [if_neg h_5]); exact hJ ls (lv_sub hl [0, 1, 2, 3, 4] rfl))
          · refine lv_iconst (v := 1) hx hb dX4_isAllAtOnce_71 (by decide) ?_
            refine lv_goto (tgt := 76) hx hb dX4_isAllAtOnce_72 (by decide) ?_
            have hJ := J_2; (repeat rw [if_neg h_3] at hJ); (repeat rw [if_neg h_4] at hJ); (repeat rw [if_pos h_5] at hJ)
            first | exact hJ ls (lv_sub hl [0, 1, 2, 3, 4] rfl) | ((repeat rw [if_neg h_3] at hl); (repeat rw [if_neg h_4] at hl); (repeat rw [if_pos h_5] at hl); (repeat rw [if_neg h_3]); (repeat rw [if_neg h_4]); (repeat rw [if_pos h_5]); exact hJ ls (lv_sub hl [0, 1, 2, 3, 4] rfl))
  · have hlt_k : k < 4 := ge_in (N := 4) rfl h_1 hk_k (by omega)
    refine lv_aload_n hx hb dX4_isAllAtOnce_13 rfl (lv_at hl 0 rfl) ?_
    refine lv_iload_n hx hb dX4_isAllAtOnce_14 rfl (lv_at hl 1 rfl) ?_
    refine lv_iload hx hb dX4_isAllAtOnce_15 (lv_at hl 4 rfl) ?_
    refine ro_call (va_runV (As := [.int child, .int (nI k)]) (rest := []) hC (c_X4_stepOf l G ad wd child (nI k)) (cwV 2 hts gX4_isAllAtOnce_X4_stepOf rfl rfl rfl kd_X4_stepOf ⟨Nat.le_of_ble_eq_true rfl, Nat.le_of_ble_eq_true rfl⟩) (ro_preV hK f_o rfl hW) rfl rfl hl.1 rfl (lv_room (Nat.le_of_ble_eq_true rfl)) dX4_isAllAtOnce_17 ⟨Nat.zero_le _, Nat.zero_le _⟩) ?_
    refine lv_istore (lv' := [(5, .int (w_stepOf wd child (nI k))), (0, .ref (ad 0)), (1, .int child), (2, .int ((w_onceIt wd child 0 0 k).1)), (3, .int ((w_onceIt wd child 0 0 k).2)), (4, .int (nI k))]) hx hb dX4_isAllAtOnce_20 hl (by decide) rfl (fun ls hl => ?_)
    refine lv_iload_n hx hb dX4_isAllAtOnce_22 rfl (lv_at hl 3 rfl) ?_
    refine lv_iload hx hb dX4_isAllAtOnce_23 (lv_at hl 0 rfl) ?_
    refine lv_iconst (v := 1) hx hb dX4_isAllAtOnce_25 (by decide) ?_
    refine join_at (nL := 6) 34 [(5, .int (w_stepOf wd child (nI k))), (0, .ref (ad 0)), (1, .int child), (2, .int ((w_onceIt wd child 0 0 k).1)), (3, .int ((w_onceIt wd child 0 0 k).2)), (4, .int (nI k))] [.int (b2i (if (w_stepOf wd child (nI k)) = 1 then true else false)), .int ((w_onceIt wd child 0 0 k).1)] (fun ls hl => ?_) (fun J_6 => ?_)
    · refine lv_iadd hx hb dX4_isAllAtOnce_34 ?_
      refine lv_istore_n (lv' := [(2, .int (((w_onceIt wd child 0 0 k).1) + (b2i (if (w_stepOf wd child (nI k)) = 1 then true else false)))), (5, .int (w_stepOf wd child (nI k))), (0, .ref (ad 0)), (1, .int child), (3, .int ((w_onceIt wd child 0 0 k).2)), (4, .int (nI k))]) hx hb dX4_isAllAtOnce_35 rfl hl (by decide) rfl (fun ls hl => ?_)
      refine lv_iload_n hx hb dX4_isAllAtOnce_36 rfl (lv_at hl 4 rfl) ?_
      refine lv_iload hx hb dX4_isAllAtOnce_37 (lv_at hl 1 rfl) ?_
      refine lv_iconst (v := 2) hx hb dX4_isAllAtOnce_39 (by decide) ?_
      refine join_at (nL := 6) 48 [(2, .int (((w_onceIt wd child 0 0 k).1) + (b2i (if (w_stepOf wd child (nI k)) = 1 then true else false)))), (5, .int (w_stepOf wd child (nI k))), (0, .ref (ad 0)), (1, .int child), (3, .int ((w_onceIt wd child 0 0 k).2)), (4, .int (nI k))] [.int (b2i (if (w_stepOf wd child (nI k)) = 2 then true else false)), .int ((w_onceIt wd child 0 0 k).2)] (fun ls hl => ?_) (fun J_7 => ?_)
      · refine lv_iadd hx hb dX4_isAllAtOnce_48 ?_
        refine lv_istore_n (lv' := [(3, .int (((w_onceIt wd child 0 0 k).2) + (b2i (if (w_stepOf wd child (nI k)) = 2 then true else false)))), (2, .int (((w_onceIt wd child 0 0 k).1) + (b2i (if (w_stepOf wd child (nI k)) = 1 then true else false)))), (5, .int (w_stepOf wd child (nI k))), (0, .ref (ad 0)), (1, .int child), (4, .int (nI k))]) hx hb dX4_isAllAtOnce_49 rfl hl (by decide) rfl (fun ls hl => ?_)
        refine lv_iinc (v := (nI k) + 1) (lv' := [(4, .int ((nI k) + 1)), (3, .int (((w_onceIt wd child 0 0 k).2) + (b2i (if (w_stepOf wd child (nI k)) = 2 then true else false)))), (2, .int (((w_onceIt wd child 0 0 k).1) + (b2i (if (w_stepOf wd child (nI k)) = 1 then true else false)))), (5, .int (w_stepOf wd child (nI k))), (0, .ref (ad 0)), (1, .int child)]) hx hb dX4_isAllAtOnce_50 hl (k := 5) rfl rfl (by decide) rfl (fun ls hl => ?_)
        refine lv_goto (tgt := 7) hx hb dX4_isAllAtOnce_53 (by decide) ?_
        have hE : (w_onceIt wd child 0 0 (k + 1)) = (((w_onceIt wd child 0 0 k).1) + (b2i (if (w_stepOf wd child (nI k)) = 1 then true else false)), ((w_onceIt wd child 0 0 k).2) + (b2i (if (w_stepOf wd child (nI k)) = 2 then true else false))) := (by show w_onceIt_st wd child k ((w_onceIt wd child 0 0 k).1) ((w_onceIt wd child 0 0 k).2) = _; (try unfold w_onceIt_st); first | done | rfl)
        refine ih_k (k + 1) (show k + 1 ≤ 4 by omega) (by omega) ls ?_
        show lv_has ls 6 [(0, .ref (ad 0)), (1, .int child), (2, .int ((w_onceIt wd child 0 0 (k + 1)).1)), (3, .int ((w_onceIt wd child 0 0 (k + 1)).2)), (4, .int (nI (k + 1)))]
        rw [nI_succ, hE]
        exact lv_sub hl [4, 5, 2, 1, 0] rfl
      · refine lv_icmp_ne (tgt := 47) hx hb dX4_isAllAtOnce_40 (by decide) (fun h_8 => ?_) (fun h_8 => ?_)
        · refine lv_iconst (v := 0) hx hb dX4_isAllAtOnce_47 (by decide) ?_
          have hJ := J_7; (repeat rw [if_neg h_8] at hJ)
          first | exact hJ ls (lv_sub hl [0, 1, 2, 3, 4, 5] rfl) | ((repeat rw [if_neg h_8] at hl); (repeat rw [if_neg h_8]); exact hJ ls (lv_sub hl [0, 1, 2, 3, 4, 5] rfl))
        · refine lv_iconst (v := 1) hx hb dX4_isAllAtOnce_43 (by decide) ?_
          refine lv_goto (tgt := 48) hx hb dX4_isAllAtOnce_44 (by decide) ?_
          have hJ := J_7; (repeat rw [if_pos h_8] at hJ)
          first | exact hJ ls (lv_sub hl [0, 1, 2, 3, 4, 5] rfl) | ((repeat rw [if_pos h_8] at hl); (repeat rw [if_pos h_8]); exact hJ ls (lv_sub hl [0, 1, 2, 3, 4, 5] rfl))
    · refine lv_icmp_ne (tgt := 33) hx hb dX4_isAllAtOnce_26 (by decide) (fun h_9 => ?_) (fun h_9 => ?_)
      · refine lv_iconst (v := 0) hx hb dX4_isAllAtOnce_33 (by decide) ?_
        have hJ := J_6; (repeat rw [if_neg h_9] at hJ)
        first | exact hJ ls (lv_sub hl [0, 1, 2, 3, 4, 5] rfl) | ((repeat rw [if_neg h_9] at hl); (repeat rw [if_neg h_9]); exact hJ ls (lv_sub hl [0, 1, 2, 3, 4, 5] rfl))
      · refine lv_iconst (v := 1) hx hb dX4_isAllAtOnce_29 (by decide) ?_
        refine lv_goto (tgt := 34) hx hb dX4_isAllAtOnce_30 (by decide) ?_
        have hJ := J_6; (repeat rw [if_pos h_9] at hJ)
        first | exact hJ ls (lv_sub hl [0, 1, 2, 3, 4, 5] rfl) | ((repeat rw [if_pos h_9] at hl); (repeat rw [if_pos h_9]); exact hJ ls (lv_sub hl [0, 1, 2, 3, 4, 5] rfl))
theorem i_X4_allAtOnce_X4 : ∀ w ∈ wsX40, w ∈ wsX4_allAtOnce := fun _ h => List.mem_cons_of_mem _ (List.mem_append_left _ (List.mem_append_right _ h))
theorem k_X4_allAtOnce_fieldLink_14 : Cond.fieldLink RX4 14 "SameWater$World" "children" "LSameWater$Rows;" ∈ wsX4_allAtOnce := by decide +kernel
theorem i_X4_allAtOnce_X2 : ∀ w ∈ wsX20, w ∈ wsX4_allAtOnce := fun _ h => List.mem_cons_of_mem _ (List.mem_append_right _ h)
theorem k_X4_allAtOnce_fieldLink_63 : Cond.fieldLink RX4 63 "SameWater$Rows" "size" "I" ∈ wsX4_allAtOnce := by decide +kernel
theorem kd_X4_isAllAtOnce : yX4_isAllAtOnce.cls = RX4 ∧ yX4_isAllAtOnce.cls ≠ "java/lang/invoke/MethodHandle" ∧ yX4_isAllAtOnce.cls ≠ "java/lang/invoke/VarHandle" ∧ (parseMethodDescriptor yX4_isAllAtOnce.desc).map (fun d => d.parameters.length) = some 1 := by decide +kernel
def w_allIt_st (wd : WT) (k : Nat) (al : Int32) : Int32 := if (w_isAllAtOnce wd (nI k)) = true then al ||| ((1 : Int32) <<< ((nI k) &&& 31)) else al
def w_allIt (wd : WT) (al0 : Int32) : Nat → Int32
  | 0 => al0
  | k + 1 => w_allIt_st wd k (w_allIt wd al0 k)
def w_allAtOnce (wd : WT) : Int32 := (w_allIt wd 0 ((wCh wd).1))
set_option maxHeartbeats 4000000 in
set_option maxRecDepth 100000 in
theorem c_X4_allAtOnce (l : Launch) (G : GG) (ad : Nat → Nat) (wd : WT)  : Met l yX4_allAtOnce wsX4_allAtOnce { frames := 4, cells := 0, slots := 0, locals := 94 } (roP G [.ref (ad 0)] (fun H => WAt G ad wd H)) (roQ (some (.int (w_allAtOnce wd)))) 0 0 nF := by
  refine Met.ofW (cc := cX4_allAtOnce) (maxL := 3) (ret := (some .int)) (by decide) rfl ?_
  intro p e s m args below meth c s₁ Bd hml hv
  obtain ⟨rfl, hK, hB⟩ := hv
  have hx := Bd.exec
  have hb := Bd.bytes
  have hr := Bd.returns
  have hts := atoms_spec (ws := wsX4_allAtOnce) Bd.pre
  have hown : s.vm.findClass RX4 = some m.cls := findClass_of_methodNamed Bd.named
  have hlocks := Bd.notSynchronized
  have hC : CallFix p m c cX4_allAtOnce 3 s _ wsX4_allAtOnce RX4 := ⟨hx, hb, hml, hown, hts⟩
  have hl := lv_entry ([.ref (ad 0)]) (n := 3) (Nat.le_of_ble_eq_true rfl)
  rw [lg_entry_eq]
  generalize (lg_sl ([.ref (ad 0)]) ++ List.replicate (3 - (lg_sl ([.ref (ad 0)])).length) Slot.unset).toArray = ls at hl ⊢
  have hl : lv_has ls 3 [(0, .ref (ad 0))] := hl
  have hW := hB
  obtain ⟨f_o, f_ch, f_as, f_an, f_tp, ⟨qf, f_q, hqf⟩, f_lw, hlc⟩ := hB
  refine lv_iconst (v := 0) hx hb dX4_allAtOnce_0 (by decide) ?_
  refine lv_istore_n (lv' := [(1, .int 0), (0, .ref (ad 0))]) hx hb dX4_allAtOnce_1 rfl hl (by decide) rfl (fun ls hl => ?_)
  refine lv_iconst (v := 0) hx hb dX4_allAtOnce_2 (by decide) ?_
  refine lv_istore_n (lv' := [(2, .int 0), (1, .int 0), (0, .ref (ad 0))]) hx hb dX4_allAtOnce_3 rfl hl (by decide) rfl (fun ls hl => ?_)
  refine loop_at (nL := 3) (fun k : Nat => [(0, .ref (ad 0)), (1, .int (w_allIt wd 0 k)), (2, .int (nI k))]) (fun k => k ≤ (wCh wd).1) (fun k => (wCh wd).1 - k) 0 (Nat.zero_le _) (lv_sub hl [2, 1, 0] rfl) (fun k hk_k ih_k ls hl => ?_)
  have hl : lv_has ls 3 [(0, .ref (ad 0)), (1, .int (w_allIt wd 0 k)), (2, .int (nI k))] := hl
  refine lv_iload_n hx hb dX4_allAtOnce_4 rfl (lv_at hl 2 rfl) ?_
  refine lv_aload_n hx hb dX4_allAtOnce_5 rfl (lv_at hl 0 rfl) ?_
  refine r_get (C := RX4) (T := TX4) (N := 6) hx hb hts i_X4_allAtOnce_X4 hown hK f_o rfl 0 (by decide) k_X4_allAtOnce_fieldLink_14 rfl rfl dX4_allAtOnce_6 ?_
  refine r_get (C := RX2) (T := TX2) (N := 4) hx hb hts i_X4_allAtOnce_X2 hown hK f_ch.1 rfl 3 (by decide) k_X4_allAtOnce_fieldLink_63 rfl rfl dX4_allAtOnce_9 ?_
  refine lv_icmp_ge (tgt := 35) hx hb dX4_allAtOnce_12 (by decide) (fun h_1 => ?_) (fun h_1 => ?_)
  · have hN_k : k = (wCh wd).1 := ge_ex (N := (wCh wd).1) rfl h_1 hk_k (by have := f_ch.2.2.1; omega)
    subst hN_k
    refine lv_iload_n hx hb dX4_allAtOnce_35 rfl (lv_at hl 1 rfl) ?_
    exact ro_iret hx hb hr hlocks dX4_allAtOnce_36 rfl
  · have hlt_k : k < (wCh wd).1 := ge_in (N := (wCh wd).1) rfl h_1 hk_k (by have := f_ch.2.2.1; omega)
    refine lv_aload_n hx hb dX4_allAtOnce_15 rfl (lv_at hl 0 rfl) ?_
    refine lv_iload_n hx hb dX4_allAtOnce_16 rfl (lv_at hl 2 rfl) ?_
    refine ro_call (va_runV (As := [.int (nI k)]) (rest := []) hC (c_X4_isAllAtOnce l G ad wd (nI k)) (cwV 1 hts gX4_allAtOnce_X4_isAllAtOnce rfl rfl rfl kd_X4_isAllAtOnce ⟨Nat.le_of_ble_eq_true rfl, Nat.le_of_ble_eq_true rfl⟩) (ro_preV hK f_o rfl hW) rfl rfl hl.1 rfl (lv_room (Nat.le_of_ble_eq_true rfl)) dX4_allAtOnce_17 ⟨Nat.zero_le _, Nat.zero_le _⟩) ?_
    refine join_at (nL := 3) 29 [(1, .int (if (w_isAllAtOnce wd (nI k)) = true then (w_allIt wd 0 k) ||| ((1 : Int32) <<< ((nI k) &&& 31)) else (w_allIt wd 0 k))), (0, .ref (ad 0)), (2, .int (nI k))] [] (fun ls hl => ?_) (fun J_2 => ?_)
    · refine lv_iinc (v := (nI k) + 1) (lv' := [(2, .int ((nI k) + 1)), (1, .int (if (w_isAllAtOnce wd (nI k)) = true then (w_allIt wd 0 k) ||| ((1 : Int32) <<< ((nI k) &&& 31)) else (w_allIt wd 0 k))), (0, .ref (ad 0))]) hx hb dX4_allAtOnce_29 hl (k := 2) rfl rfl (by decide) rfl (fun ls hl => ?_)
      refine lv_goto (tgt := 4) hx hb dX4_allAtOnce_32 (by decide) ?_
      have hE : (w_allIt wd 0 (k + 1)) = if (w_isAllAtOnce wd (nI k)) = true then (w_allIt wd 0 k) ||| ((1 : Int32) <<< ((nI k) &&& 31)) else (w_allIt wd 0 k) := (by show w_allIt_st wd k (w_allIt wd 0 k) = _; (try unfold w_allIt_st); first | done | rfl)
      refine ih_k (k + 1) (show k + 1 ≤ (wCh wd).1 by omega) (by omega) ls ?_
      show lv_has ls 3 [(0, .ref (ad 0)), (1, .int (w_allIt wd 0 (k + 1))), (2, .int (nI (k + 1)))]
      rw [nI_succ, hE]
      exact lv_sub hl [2, 1, 0] rfl
    · refine bz_eq (tgt := 29) hx hb dX4_allAtOnce_20 (by decide) (fun h_3 => ?_) (fun h_3 => ?_)
      · have hJ := J_2; (repeat rw [if_neg h_3] at hJ)
        first | exact hJ ls (lv_sub hl [1, 0, 2] rfl) | ((repeat rw [if_neg h_3] at hl); (repeat rw [if_neg h_3]); exact hJ ls (lv_sub hl [1, 0, 2] rfl))
      · refine lv_iload_n hx hb dX4_allAtOnce_23 rfl (lv_at hl 1 rfl) ?_
        refine lv_iconst (v := 1) hx hb dX4_allAtOnce_24 (by decide) ?_
        refine lv_iload_n hx hb dX4_allAtOnce_25 rfl (lv_at hl 2 rfl) ?_
        refine lv_ishl hx hb dX4_allAtOnce_26 ?_
        refine lv_ior hx hb dX4_allAtOnce_27 ?_
        refine lv_istore_n (lv' := [(1, .int ((w_allIt wd 0 k) ||| ((1 : Int32) <<< ((nI k) &&& 31)))), (0, .ref (ad 0)), (2, .int (nI k))]) hx hb dX4_allAtOnce_28 rfl hl (by decide) rfl (fun ls hl => ?_)
        have hJ := J_2; (repeat rw [if_pos h_3] at hJ)
        first | exact hJ ls (lv_sub hl [0, 1, 2] rfl) | ((repeat rw [if_pos h_3] at hl); (repeat rw [if_pos h_3]); exact hJ ls (lv_sub hl [0, 1, 2] rfl))
theorem i_X4_shownBefore_X4 : ∀ w ∈ wsX40, w ∈ wsX4_shownBefore := fun _ h => List.mem_cons_of_mem _ (List.mem_append_left _ (List.mem_append_right _ h))
theorem k_X4_shownBefore_fieldLink_14 : Cond.fieldLink RX4 14 "SameWater$World" "children" "LSameWater$Rows;" ∈ wsX4_shownBefore := by decide +kernel
theorem i_X4_shownBefore_X2 : ∀ w ∈ wsX20, w ∈ wsX4_shownBefore := fun _ h => List.mem_cons_of_mem _ (List.mem_append_right _ h)
theorem k_X4_shownBefore_fieldLink_63 : Cond.fieldLink RX4 63 "SameWater$Rows" "size" "I" ∈ wsX4_shownBefore := by decide +kernel
def w_shbIt_st (wd : WT) (kk jj : Int32) (k : Nat) (fo : Int32) : Int32 := if (w_stepOf wd (nI k) kk) = 1 then if (w_stepOf wd (nI k) jj) = 2 then fo + 1 else fo else fo
def w_shbIt (wd : WT) (kk jj : Int32) (fo0 : Int32) : Nat → Int32
  | 0 => fo0
  | k + 1 => w_shbIt_st wd kk jj k (w_shbIt wd kk jj fo0 k)
def w_shownBefore (wd : WT) (kk : Int32) (jj : Int32) : Int32 := (w_shbIt wd kk jj 0 ((wCh wd).1))
set_option maxHeartbeats 4000000 in
set_option maxRecDepth 100000 in
theorem c_X4_shownBefore (l : Launch) (G : GG) (ad : Nat → Nat) (wd : WT) (kk : Int32) (jj : Int32)  : Met l yX4_shownBefore wsX4_shownBefore { frames := 3, cells := 0, slots := 0, locals := 69 } (roP G [.ref (ad 0), .int kk, .int jj] (fun H => WAt G ad wd H)) (roQ (some (.int (w_shownBefore wd kk jj)))) 0 0 nF := by
  refine Met.ofW (cc := cX4_shownBefore) (maxL := 5) (ret := (some .int)) (by decide) rfl ?_
  intro p e s m args below meth c s₁ Bd hml hv
  obtain ⟨rfl, hK, hB⟩ := hv
  have hx := Bd.exec
  have hb := Bd.bytes
  have hr := Bd.returns
  have hts := atoms_spec (ws := wsX4_shownBefore) Bd.pre
  have hown : s.vm.findClass RX4 = some m.cls := findClass_of_methodNamed Bd.named
  have hlocks := Bd.notSynchronized
  have hC : CallFix p m c cX4_shownBefore 5 s _ wsX4_shownBefore RX4 := ⟨hx, hb, hml, hown, hts⟩
  have hl := lv_entry ([.ref (ad 0), .int kk, .int jj]) (n := 5) (Nat.le_of_ble_eq_true rfl)
  rw [lg_entry_eq]
  generalize (lg_sl ([.ref (ad 0), .int kk, .int jj]) ++ List.replicate (5 - (lg_sl ([.ref (ad 0), .int kk, .int jj])).length) Slot.unset).toArray = ls at hl ⊢
  have hl : lv_has ls 5 [(0, .ref (ad 0)), (1, .int kk), (2, .int jj)] := hl
  have hW := hB
  obtain ⟨f_o, f_ch, f_as, f_an, f_tp, ⟨qf, f_q, hqf⟩, f_lw, hlc⟩ := hB
  refine lv_iconst (v := 0) hx hb dX4_shownBefore_0 (by decide) ?_
  refine lv_istore_n (lv' := [(3, .int 0), (0, .ref (ad 0)), (1, .int kk), (2, .int jj)]) hx hb dX4_shownBefore_1 rfl hl (by decide) rfl (fun ls hl => ?_)
  refine lv_iconst (v := 0) hx hb dX4_shownBefore_2 (by decide) ?_
  refine lv_istore (lv' := [(4, .int 0), (3, .int 0), (0, .ref (ad 0)), (1, .int kk), (2, .int jj)]) hx hb dX4_shownBefore_3 hl (by decide) rfl (fun ls hl => ?_)
  refine loop_at (nL := 5) (fun k : Nat => [(0, .ref (ad 0)), (1, .int kk), (2, .int jj), (3, .int (w_shbIt wd kk jj 0 k)), (4, .int (nI k))]) (fun k => k ≤ (wCh wd).1) (fun k => (wCh wd).1 - k) 0 (Nat.zero_le _) (lv_sub hl [2, 3, 4, 1, 0] rfl) (fun k hk_k ih_k ls hl => ?_)
  have hl : lv_has ls 5 [(0, .ref (ad 0)), (1, .int kk), (2, .int jj), (3, .int (w_shbIt wd kk jj 0 k)), (4, .int (nI k))] := hl
  refine lv_iload hx hb dX4_shownBefore_5 (lv_at hl 4 rfl) ?_
  refine lv_aload_n hx hb dX4_shownBefore_7 rfl (lv_at hl 0 rfl) ?_
  refine r_get (C := RX4) (T := TX4) (N := 6) hx hb hts i_X4_shownBefore_X4 hown hK f_o rfl 0 (by decide) k_X4_shownBefore_fieldLink_14 rfl rfl dX4_shownBefore_8 ?_
  refine r_get (C := RX2) (T := TX2) (N := 4) hx hb hts i_X4_shownBefore_X2 hown hK f_ch.1 rfl 3 (by decide) k_X4_shownBefore_fieldLink_63 rfl rfl dX4_shownBefore_11 ?_
  refine lv_icmp_ge (tgt := 48) hx hb dX4_shownBefore_14 (by decide) (fun h_1 => ?_) (fun h_1 => ?_)
  · have hN_k : k = (wCh wd).1 := ge_ex (N := (wCh wd).1) rfl h_1 hk_k (by have := f_ch.2.2.1; omega)
    subst hN_k
    refine lv_iload_n hx hb dX4_shownBefore_48 rfl (lv_at hl 3 rfl) ?_
    exact ro_iret hx hb hr hlocks dX4_shownBefore_49 rfl
  · have hlt_k : k < (wCh wd).1 := ge_in (N := (wCh wd).1) rfl h_1 hk_k (by have := f_ch.2.2.1; omega)
    refine lv_aload_n hx hb dX4_shownBefore_17 rfl (lv_at hl 0 rfl) ?_
    refine lv_iload hx hb dX4_shownBefore_18 (lv_at hl 4 rfl) ?_
    refine lv_iload_n hx hb dX4_shownBefore_20 rfl (lv_at hl 1 rfl) ?_
    refine ro_call (va_runV (As := [.int (nI k), .int kk]) (rest := []) hC (c_X4_stepOf l G ad wd (nI k) kk) (cwV 2 hts gX4_shownBefore_X4_stepOf rfl rfl rfl kd_X4_stepOf ⟨Nat.le_of_ble_eq_true rfl, Nat.le_of_ble_eq_true rfl⟩) (ro_preV hK f_o rfl hW) rfl rfl hl.1 rfl (lv_room (Nat.le_of_ble_eq_true rfl)) dX4_shownBefore_21 ⟨Nat.zero_le _, Nat.zero_le _⟩) ?_
    refine lv_iconst (v := 1) hx hb dX4_shownBefore_24 (by decide) ?_
    refine join_at (nL := 5) 42 [(3, .int (if (w_stepOf wd (nI k) kk) = 1 then if (w_stepOf wd (nI k) jj) = 2 then (w_shbIt wd kk jj 0 k) + 1 else (w_shbIt wd kk jj 0 k) else (w_shbIt wd kk jj 0 k))), (0, .ref (ad 0)), (1, .int kk), (2, .int jj), (4, .int (nI k))] [] (fun ls hl => ?_) (fun J_2 => ?_)
    · refine lv_iinc (v := (nI k) + 1) (lv' := [(4, .int ((nI k) + 1)), (3, .int (if (w_stepOf wd (nI k) kk) = 1 then if (w_stepOf wd (nI k) jj) = 2 then (w_shbIt wd kk jj 0 k) + 1 else (w_shbIt wd kk jj 0 k) else (w_shbIt wd kk jj 0 k))), (0, .ref (ad 0)), (1, .int kk), (2, .int jj)]) hx hb dX4_shownBefore_42 hl (k := 4) rfl rfl (by decide) rfl (fun ls hl => ?_)
      refine lv_goto (tgt := 5) hx hb dX4_shownBefore_45 (by decide) ?_
      have hE : (w_shbIt wd kk jj 0 (k + 1)) = if (w_stepOf wd (nI k) kk) = 1 then if (w_stepOf wd (nI k) jj) = 2 then (w_shbIt wd kk jj 0 k) + 1 else (w_shbIt wd kk jj 0 k) else (w_shbIt wd kk jj 0 k) := (by show w_shbIt_st wd kk jj k (w_shbIt wd kk jj 0 k) = _; (try unfold w_shbIt_st); first | done | rfl)
      refine ih_k (k + 1) (show k + 1 ≤ (wCh wd).1 by omega) (by omega) ls ?_
      show lv_has ls 5 [(0, .ref (ad 0)), (1, .int kk), (2, .int jj), (3, .int (w_shbIt wd kk jj 0 (k + 1))), (4, .int (nI (k + 1)))]
      rw [nI_succ, hE]
      exact lv_sub hl [2, 3, 4, 1, 0] rfl
    · refine lv_icmp_ne (tgt := 42) hx hb dX4_shownBefore_25 (by decide) (fun h_3 => ?_) (fun h_3 => ?_)
      · have hJ := J_2; (repeat rw [if_neg h_3] at hJ)
        first | exact hJ ls (lv_sub hl [3, 0, 1, 2, 4] rfl) | ((repeat rw [if_neg h_3] at hl); (repeat rw [if_neg h_3]); exact hJ ls (lv_sub hl [3, 0, 1, 2, 4] rfl))
      · refine lv_aload_n hx hb dX4_shownBefore_28 rfl (lv_at hl 0 rfl) ?_
        refine lv_iload hx hb dX4_shownBefore_29 (lv_at hl 4 rfl) ?_
        refine lv_iload_n hx hb dX4_shownBefore_31 rfl (lv_at hl 2 rfl) ?_
        refine ro_call (va_runV (As := [.int (nI k), .int jj]) (rest := []) hC (c_X4_stepOf l G ad wd (nI k) jj) (cwV 2 hts gX4_shownBefore_X4_stepOf rfl rfl rfl kd_X4_stepOf ⟨Nat.le_of_ble_eq_true rfl, Nat.le_of_ble_eq_true rfl⟩) (ro_preV hK f_o rfl hW) rfl rfl hl.1 rfl (lv_room (Nat.le_of_ble_eq_true rfl)) dX4_shownBefore_32 ⟨Nat.zero_le _, Nat.zero_le _⟩) ?_
        refine lv_iconst (v := 2) hx hb dX4_shownBefore_35 (by decide) ?_
        refine lv_icmp_ne (tgt := 42) hx hb dX4_shownBefore_36 (by decide) (fun h_4 => ?_) (fun h_4 => ?_)
        · have hJ := J_2; (repeat rw [if_pos h_3] at hJ); (repeat rw [if_neg h_4] at hJ)
          first | exact hJ ls (lv_sub hl [3, 0, 1, 2, 4] rfl) | ((repeat rw [if_pos h_3] at hl); (repeat rw [if_neg h_4] at hl); (repeat rw [if_pos h_3]); (repeat rw [if_neg h_4]); exact hJ ls (lv_sub hl [3, 0, 1, 2, 4] rfl))
        · refine lv_iinc (v := (w_shbIt wd kk jj 0 k) + 1) (lv' := [(3, .int ((w_shbIt wd kk jj 0 k) + 1)), (0, .ref (ad 0)), (1, .int kk), (2, .int jj), (4, .int (nI k))]) hx hb dX4_shownBefore_39 hl (k := 3) rfl rfl (by decide) rfl (fun ls hl => ?_)
          have hJ := J_2; (repeat rw [if_pos h_3] at hJ); (repeat rw [if_pos h_4] at hJ)
          first | exact hJ ls (lv_sub hl [0, 1, 2, 3, 4] rfl) | ((repeat rw [if_pos h_3] at hl); (repeat rw [if_pos h_4] at hl); (repeat rw [if_pos h_3]); (repeat rw [if_pos h_4]); exact hJ ls (lv_sub hl [0, 1, 2, 3, 4] rfl))
theorem i_X4_isMostlyKept_X4 : ∀ w ∈ wsX40, w ∈ wsX4_isMostlyKept := fun _ h => List.mem_cons_of_mem _ (List.mem_append_left _ (List.mem_append_right _ h))
theorem k_X4_isMostlyKept_fieldLink_23 : Cond.fieldLink RX4 23 "SameWater$World" "answers" "LSameWater$Rows;" ∈ wsX4_isMostlyKept := by decide +kernel
theorem i_X4_isMostlyKept_X2 : ∀ w ∈ wsX20, w ∈ wsX4_isMostlyKept := fun _ h => List.mem_cons_of_mem _ (List.mem_append_right _ h)
theorem k_X4_isMostlyKept_fieldLink_63 : Cond.fieldLink RX4 63 "SameWater$Rows" "size" "I" ∈ wsX4_isMostlyKept := by decide +kernel
def w_mostIt_st (wd : WT) (stuff age : Int32) (needs : Bool) (k : Nat) (al : Int32) (sm : Int32) : Int32 × Int32 := (if (if (f_at 5 (wAn wd) (nI k) 4) < age then false else if (w_ofAsked wd (nI k) 0) = stuff then if (w_ofAsked wd (nI k) 6) = 0 then true else false else false) = true then al + 1 else al, if (if (f_at 5 (wAn wd) (nI k) 4) < age then false else if (w_ofAsked wd (nI k) 0) = stuff then if (w_ofAsked wd (nI k) 6) = 0 then true else false else false) = true then if (w_isSame wd (nI k)) = true then if needs = true then if (f_at 5 (wAn wd) (nI k) 3) = 1 then sm + 1 else sm else sm + 1 else sm else sm)
def w_mostIt (wd : WT) (stuff age : Int32) (needs : Bool) (al0 : Int32) (sm0 : Int32) : Nat → Int32 × Int32
  | 0 => (al0, sm0)
  | k + 1 => w_mostIt_st wd stuff age needs k ((w_mostIt wd stuff age needs al0 sm0 k).1) ((w_mostIt wd stuff age needs al0 sm0 k).2)
def w_isMostlyKept (wd : WT) (stuff : Int32) (age : Int32) (needs : Bool) : Bool := (if (((w_mostIt wd stuff age needs 0 0 ((wAn wd).1)).2) * 2) ≤ ((w_mostIt wd stuff age needs 0 0 ((wAn wd).1)).1) then false else true)
set_option maxHeartbeats 4000000 in
set_option maxRecDepth 100000 in
theorem c_X4_isMostlyKept (l : Launch) (G : GG) (ad : Nat → Nat) (wd : WT) (stuff : Int32) (age : Int32) (needs : Bool)  : Met l yX4_isMostlyKept wsX4_isMostlyKept { frames := 2, cells := 0, slots := 0, locals := 44 } (roP G [.ref (ad 0), .int stuff, .int age, .int (b2i needs)] (fun H => WAt G ad wd H)) (roQ (some (.int (b2i (w_isMostlyKept wd stuff age needs))))) 0 0 nF := by
  refine Met.ofW (cc := cX4_isMostlyKept) (maxL := 8) (ret := (some .boolean)) (by decide) rfl ?_
  intro p e s m args below meth c s₁ Bd hml hv
  obtain ⟨rfl, hK, hB⟩ := hv
  have hx := Bd.exec
  have hb := Bd.bytes
  have hr := Bd.returns
  have hts := atoms_spec (ws := wsX4_isMostlyKept) Bd.pre
  have hown : s.vm.findClass RX4 = some m.cls := findClass_of_methodNamed Bd.named
  have hlocks := Bd.notSynchronized
  have hC : CallFix p m c cX4_isMostlyKept 8 s _ wsX4_isMostlyKept RX4 := ⟨hx, hb, hml, hown, hts⟩
  have hl := lv_entry ([.ref (ad 0), .int stuff, .int age, .int (b2i needs)]) (n := 8) (Nat.le_of_ble_eq_true rfl)
  rw [lg_entry_eq]
  generalize (lg_sl ([.ref (ad 0), .int stuff, .int age, .int (b2i needs)]) ++ List.replicate (8 - (lg_sl ([.ref (ad 0), .int stuff, .int age, .int (b2i needs)])).length) Slot.unset).toArray = ls at hl ⊢
  have hl : lv_has ls 8 [(0, .ref (ad 0)), (1, .int stuff), (2, .int age), (3, .int (b2i needs))] := hl
  have hW := hB
  obtain ⟨f_o, f_ch, f_as, f_an, f_tp, ⟨qf, f_q, hqf⟩, f_lw, hlc⟩ := hB
  refine lv_iconst (v := 0) hx hb dX4_isMostlyKept_0 (by decide) ?_
  refine lv_istore (lv' := [(4, .int 0), (0, .ref (ad 0)), (1, .int stuff), (2, .int age), (3, .int (b2i needs))]) hx hb dX4_isMostlyKept_1 hl (by decide) rfl (fun ls hl => ?_)
  refine lv_iconst (v := 0) hx hb dX4_isMostlyKept_3 (by decide) ?_
  refine lv_istore (lv' := [(5, .int 0), (4, .int 0), (0, .ref (ad 0)), (1, .int stuff), (2, .int age), (3, .int (b2i needs))]) hx hb dX4_isMostlyKept_4 hl (by decide) rfl (fun ls hl => ?_)
  refine lv_iconst (v := 0) hx hb dX4_isMostlyKept_6 (by decide) ?_
  refine lv_istore (lv' := [(6, .int 0), (5, .int 0), (4, .int 0), (0, .ref (ad 0)), (1, .int stuff), (2, .int age), (3, .int (b2i needs))]) hx hb dX4_isMostlyKept_7 hl (by decide) rfl (fun ls hl => ?_)
  refine loop_at (nL := 8) (fun k : Nat => [(0, .ref (ad 0)), (1, .int stuff), (2, .int age), (3, .int (b2i needs)), (4, .int ((w_mostIt wd stuff age needs 0 0 k).1)), (5, .int ((w_mostIt wd stuff age needs 0 0 k).2)), (6, .int (nI k))]) (fun k => k ≤ (wAn wd).1) (fun k => (wAn wd).1 - k) 0 (Nat.zero_le _) (lv_sub hl [3, 4, 5, 6, 2, 1, 0] rfl) (fun k hk_k ih_k ls hl => ?_)
  have hl : lv_has ls 8 [(0, .ref (ad 0)), (1, .int stuff), (2, .int age), (3, .int (b2i needs)), (4, .int ((w_mostIt wd stuff age needs 0 0 k).1)), (5, .int ((w_mostIt wd stuff age needs 0 0 k).2)), (6, .int (nI k))] := hl
  refine lv_iload hx hb dX4_isMostlyKept_9 (lv_at hl 6 rfl) ?_
  refine lv_aload_n hx hb dX4_isMostlyKept_11 rfl (lv_at hl 0 rfl) ?_
  refine r_get (C := RX4) (T := TX4) (N := 6) hx hb hts i_X4_isMostlyKept_X4 hown hK f_o rfl 2 (by decide) k_X4_isMostlyKept_fieldLink_23 rfl rfl dX4_isMostlyKept_12 ?_
  refine r_get (C := RX2) (T := TX2) (N := 4) hx hb hts i_X4_isMostlyKept_X2 hown hK f_an.1 rfl 3 (by decide) k_X4_isMostlyKept_fieldLink_63 rfl rfl dX4_isMostlyKept_15 ?_
  refine lv_icmp_ge (tgt := 113) hx hb dX4_isMostlyKept_18 (by decide) (fun h_1 => ?_) (fun h_1 => ?_)
  · have hN_k : k = (wAn wd).1 := ge_ex (N := (wAn wd).1) rfl h_1 hk_k (by have := f_an.2.2.1; omega)
    subst hN_k
    refine lv_iload hx hb dX4_isMostlyKept_113 (lv_at hl 5 rfl) ?_
    refine lv_iconst (v := 2) hx hb dX4_isMostlyKept_115 (by decide) ?_
    refine lv_imul hx hb dX4_isMostlyKept_116 ?_
    refine lv_iload hx hb dX4_isMostlyKept_117 (lv_at hl 4 rfl) ?_
    refine join_at (nL := 8) 127 [(0, .ref (ad 0)), (1, .int stuff), (2, .int age), (3, .int (b2i needs)), (4, .int ((w_mostIt wd stuff age needs 0 0 ((wAn wd).1)).1)), (5, .int ((w_mostIt wd stuff age needs 0 0 ((wAn wd).1)).2)), (6, .int (nI ((wAn wd).1)))] [.int (b2i (if (((w_mostIt wd stuff age needs 0 0 ((wAn wd).1)).2) * 2) ≤ ((w_mostIt wd stuff age needs 0 0 ((wAn wd).1)).1) then false else true))] (fun ls hl => ?_) (fun J_2 => ?_)
    · exact ro_zret hx hb hr hlocks dX4_isMostlyKept_127 rfl
    · refine lv_icmp_le (tgt := 126) hx hb dX4_isMostlyKept_119 (by decide) (fun h_3 => ?_) (fun h_3 => ?_)
      · refine lv_iconst (v := 0) hx hb dX4_isMostlyKept_126 (by decide) ?_
        have hJ := J_2; (repeat rw [if_pos h_3] at hJ)
        first | exact hJ ls (lv_sub hl [0, 1, 2, 3, 4, 5, 6] rfl) | ((repeat rw [if_pos h_3] at hl); (repeat rw [if_pos h_3]); exact hJ ls (lv_sub hl [0, 1, 2, 3, 4, 5, 6] rfl))
      · refine lv_iconst (v := 1) hx hb dX4_isMostlyKept_122 (by decide) ?_
        refine lv_goto (tgt := 127) hx hb dX4_isMostlyKept_123 (by decide) ?_
        have hJ := J_2; (repeat rw [if_neg h_3] at hJ)
        first | exact hJ ls (lv_sub hl [0, 1, 2, 3, 4, 5, 6] rfl) | ((repeat rw [if_neg h_3] at hl); (repeat rw [if_neg h_3]); exact hJ ls (lv_sub hl [0, 1, 2, 3, 4, 5, 6] rfl))
  · have hlt_k : k < (wAn wd).1 := ge_in (N := (wAn wd).1) rfl h_1 hk_k (by have := f_an.2.2.1; omega)
    refine lv_aload_n hx hb dX4_isMostlyKept_21 rfl (lv_at hl 0 rfl) ?_
    refine r_get (C := RX4) (T := TX4) (N := 6) hx hb hts i_X4_isMostlyKept_X4 hown hK f_o rfl 2 (by decide) k_X4_isMostlyKept_fieldLink_23 rfl rfl dX4_isMostlyKept_22 ?_
    refine lv_iload hx hb dX4_isMostlyKept_25 (lv_at hl 6 rfl) ?_
    refine lv_iconst (v := 4) hx hb dX4_isMostlyKept_27 (by decide) ?_
    refine ro_call (va_runV (As := [.int (nI k), .int 4]) (rest := []) hC (c_X2_at l G (ad 5) (ad 6) 40 5 (wAn wd) (nI k) 4) (cwV 2 hts gX4_isMostlyKept_X2_at rfl rfl rfl kd_X2_at ⟨Nat.le_of_ble_eq_true rfl, Nat.le_of_ble_eq_true rfl⟩) (ro_preV hK f_an.1 rfl f_an) rfl rfl hl.1 rfl (lv_room (Nat.le_of_ble_eq_true rfl)) dX4_isMostlyKept_28 ⟨Nat.zero_le _, Nat.zero_le _⟩) ?_
    refine lv_iload_n hx hb dX4_isMostlyKept_31 rfl (lv_at hl 2 rfl) ?_
    refine join_at (nL := 8) 62 [(0, .ref (ad 0)), (1, .int stuff), (2, .int age), (3, .int (b2i needs)), (4, .int ((w_mostIt wd stuff age needs 0 0 k).1)), (5, .int ((w_mostIt wd stuff age needs 0 0 k).2)), (6, .int (nI k))] [.int (b2i (if (f_at 5 (wAn wd) (nI k) 4) < age then false else if (w_ofAsked wd (nI k) 0) = stuff then if (w_ofAsked wd (nI k) 6) = 0 then true else false else false))] (fun ls hl => ?_) (fun J_4 => ?_)
    · refine lv_istore (lv' := [(7, .int (b2i (if (f_at 5 (wAn wd) (nI k) 4) < age then false else if (w_ofAsked wd (nI k) 0) = stuff then if (w_ofAsked wd (nI k) 6) = 0 then true else false else false))), (0, .ref (ad 0)), (1, .int stuff), (2, .int age), (3, .int (b2i needs)), (4, .int ((w_mostIt wd stuff age needs 0 0 k).1)), (5, .int ((w_mostIt wd stuff age needs 0 0 k).2)), (6, .int (nI k))]) hx hb dX4_isMostlyKept_62 hl (by decide) rfl (fun ls hl => ?_)
      refine lv_iload hx hb dX4_isMostlyKept_64 (lv_at hl 0 rfl) ?_
      refine join_at (nL := 8) 72 [(4, .int (if (if (f_at 5 (wAn wd) (nI k) 4) < age then false else if (w_ofAsked wd (nI k) 0) = stuff then if (w_ofAsked wd (nI k) 6) = 0 then true else false else false) = true then ((w_mostIt wd stuff age needs 0 0 k).1) + 1 else (w_mostIt wd stuff age needs 0 0 k).1)), (7, .int (b2i (if (f_at 5 (wAn wd) (nI k) 4) < age then false else if (w_ofAsked wd (nI k) 0) = stuff then if (w_ofAsked wd (nI k) 6) = 0 then true else false else false))), (0, .ref (ad 0)), (1, .int stuff), (2, .int age), (3, .int (b2i needs)), (5, .int ((w_mostIt wd stuff age needs 0 0 k).2)), (6, .int (nI k))] [] (fun ls hl => ?_) (fun J_5 => ?_)
      · refine lv_iload hx hb dX4_isMostlyKept_72 (lv_at hl 1 rfl) ?_
        refine join_at (nL := 8) 107 [(5, .int (if (if (f_at 5 (wAn wd) (nI k) 4) < age then false else if (w_ofAsked wd (nI k) 0) = stuff then if (w_ofAsked wd (nI k) 6) = 0 then true else false else false) = true then if (w_isSame wd (nI k)) = true then if needs = true then if (f_at 5 (wAn wd) (nI k) 3) = 1 then ((w_mostIt wd stuff age needs 0 0 k).2) + 1 else (w_mostIt wd stuff age needs 0 0 k).2 else ((w_mostIt wd stuff age needs 0 0 k).2) + 1 else (w_mostIt wd stuff age needs 0 0 k).2 else (w_mostIt wd stuff age needs 0 0 k).2)), (4, .int (if (if (f_at 5 (wAn wd) (nI k) 4) < age then false else if (w_ofAsked wd (nI k) 0) = stuff then if (w_ofAsked wd (nI k) 6) = 0 then true else false else false) = true then ((w_mostIt wd stuff age needs 0 0 k).1) + 1 else (w_mostIt wd stuff age needs 0 0 k).1)), (7, .int (b2i (if (f_at 5 (wAn wd) (nI k) 4) < age then false else if (w_ofAsked wd (nI k) 0) = stuff then if (w_ofAsked wd (nI k) 6) = 0 then true else false else false))), (0, .ref (ad 0)), (1, .int stuff), (2, .int age), (3, .int (b2i needs)), (6, .int (nI k))] [] (fun ls hl => ?_) (fun J_6 => ?_)
        · refine lv_iinc (v := (nI k) + 1) (lv' := [(6, .int ((nI k) + 1)), (5, .int (if (if (f_at 5 (wAn wd) (nI k) 4) < age then false else if (w_ofAsked wd (nI k) 0) = stuff then if (w_ofAsked wd (nI k) 6) = 0 then true else false else false) = true then if (w_isSame wd (nI k)) = true then if needs = true then if (f_at 5 (wAn wd) (nI k) 3) = 1 then ((w_mostIt wd stuff age needs 0 0 k).2) + 1 else (w_mostIt wd stuff age needs 0 0 k).2 else ((w_mostIt wd stuff age needs 0 0 k).2) + 1 else (w_mostIt wd stuff age needs 0 0 k).2 else (w_mostIt wd stuff age needs 0 0 k).2)), (4, .int (if (if (f_at 5 (wAn wd) (nI k) 4) < age then false else if (w_ofAsked wd (nI k) 0) = stuff then if (w_ofAsked wd (nI k) 6) = 0 then true else false else false) = true then ((w_mostIt wd stuff age needs 0 0 k).1) + 1 else (w_mostIt wd stuff age needs 0 0 k).1)), (7, .int (b2i (if (f_at 5 (wAn wd) (nI k) 4) < age then false else if (w_ofAsked wd (nI k) 0) = stuff then if (w_ofAsked wd (nI k) 6) = 0 then true else false else false))), (0, .ref (ad 0)), (1, .int stuff), (2, .int age), (3, .int (b2i needs))]) hx hb dX4_isMostlyKept_107 hl (k := 7) rfl rfl (by decide) rfl (fun ls hl => ?_)
          refine lv_goto (tgt := 9) hx hb dX4_isMostlyKept_110 (by decide) ?_
          have hE : (w_mostIt wd stuff age needs 0 0 (k + 1)) = (if (if (f_at 5 (wAn wd) (nI k) 4) < age then false else if (w_ofAsked wd (nI k) 0) = stuff then if (w_ofAsked wd (nI k) 6) = 0 then true else false else false) = true then ((w_mostIt wd stuff age needs 0 0 k).1) + 1 else (w_mostIt wd stuff age needs 0 0 k).1, if (if (f_at 5 (wAn wd) (nI k) 4) < age then false else if (w_ofAsked wd (nI k) 0) = stuff then if (w_ofAsked wd (nI k) 6) = 0 then true else false else false) = true then if (w_isSame wd (nI k)) = true then if needs = true then if (f_at 5 (wAn wd) (nI k) 3) = 1 then ((w_mostIt wd stuff age needs 0 0 k).2) + 1 else (w_mostIt wd stuff age needs 0 0 k).2 else ((w_mostIt wd stuff age needs 0 0 k).2) + 1 else (w_mostIt wd stuff age needs 0 0 k).2 else (w_mostIt wd stuff age needs 0 0 k).2) := (by show w_mostIt_st wd stuff age needs k ((w_mostIt wd stuff age needs 0 0 k).1) ((w_mostIt wd stuff age needs 0 0 k).2) = _; (try unfold w_mostIt_st); first | done | rfl)
          refine ih_k (k + 1) (show k + 1 ≤ (wAn wd).1 by omega) (by omega) ls ?_
          show lv_has ls 8 [(0, .ref (ad 0)), (1, .int stuff), (2, .int age), (3, .int (b2i needs)), (4, .int ((w_mostIt wd stuff age needs 0 0 (k + 1)).1)), (5, .int ((w_mostIt wd stuff age needs 0 0 (k + 1)).2)), (6, .int (nI (k + 1)))]
          rw [nI_succ, hE]
          exact lv_sub hl [4, 5, 6, 7, 2, 1, 0] rfl
        · refine bz_eq (tgt := 107) hx hb dX4_isMostlyKept_74 (by decide) (fun h_7 => ?_) (fun h_7 => ?_)
          · have hJ := J_6; (repeat rw [if_neg h_7] at hJ)
            first | exact hJ ls (lv_sub hl [6, 0, 1, 2, 3, 4, 5, 7] rfl) | ((repeat rw [if_neg h_7] at hl); (repeat rw [if_neg h_7]); exact hJ ls (lv_sub hl [6, 0, 1, 2, 3, 4, 5, 7] rfl))
          · refine lv_aload_n hx hb dX4_isMostlyKept_77 rfl (lv_at hl 2 rfl) ?_
            refine lv_iload hx hb dX4_isMostlyKept_78 (lv_at hl 7 rfl) ?_
            refine ro_call (va_runV (As := [.int (nI k)]) (rest := []) hC (c_X4_isSame l G ad wd (nI k)) (cwV 1 hts gX4_isMostlyKept_X4_isSame rfl rfl rfl kd_X4_isSame ⟨Nat.le_of_ble_eq_true rfl, Nat.le_of_ble_eq_true rfl⟩) (ro_preV hK f_o rfl hW) rfl rfl hl.1 rfl (lv_room (Nat.le_of_ble_eq_true rfl)) dX4_isMostlyKept_80 ⟨Nat.zero_le _, Nat.zero_le _⟩) ?_
            refine bz_eq (tgt := 107) hx hb dX4_isMostlyKept_83 (by decide) (fun h_8 => ?_) (fun h_8 => ?_)
            · have hJ := J_6; (repeat rw [if_pos h_7] at hJ); (repeat rw [if_neg h_8] at hJ)
              first | exact hJ ls (lv_sub hl [6, 0, 1, 2, 3, 4, 5, 7] rfl) | ((repeat rw [if_pos h_7] at hl); (repeat rw [if_neg h_8] at hl); (repeat rw [if_pos h_7]); (repeat rw [if_neg h_8]); exact hJ ls (lv_sub hl [6, 0, 1, 2, 3, 4, 5, 7] rfl))
            · refine lv_iload_n hx hb dX4_isMostlyKept_86 rfl (lv_at hl 5 rfl) ?_
              refine bz_eq (tgt := 104) hx hb dX4_isMostlyKept_87 (by decide) (fun h_9 => ?_) (fun h_9 => ?_)
              · refine lv_iinc (v := ((w_mostIt wd stuff age needs 0 0 k).2) + 1) (lv' := [(5, .int (((w_mostIt wd stuff age needs 0 0 k).2) + 1)), (4, .int (if (if (f_at 5 (wAn wd) (nI k) 4) < age then false else if (w_ofAsked wd (nI k) 0) = stuff then if (w_ofAsked wd (nI k) 6) = 0 then true else false else false) = true then ((w_mostIt wd stuff age needs 0 0 k).1) + 1 else (w_mostIt wd stuff age needs 0 0 k).1)), (7, .int (b2i (if (f_at 5 (wAn wd) (nI k) 4) < age then false else if (w_ofAsked wd (nI k) 0) = stuff then if (w_ofAsked wd (nI k) 6) = 0 then true else false else false))), (0, .ref (ad 0)), (1, .int stuff), (2, .int age), (3, .int (b2i needs)), (6, .int (nI k))]) hx hb dX4_isMostlyKept_104 hl (k := 6) rfl rfl (by decide) rfl (fun ls hl => ?_)
                have hJ := J_6; (repeat rw [if_pos h_7] at hJ); (repeat rw [if_pos h_8] at hJ); (repeat rw [if_neg h_9] at hJ)
                first | exact hJ ls (lv_sub hl [0, 1, 2, 3, 4, 5, 6, 7] rfl) | ((repeat rw [if_pos h_7] at hl); (repeat rw [if_pos h_8] at hl); (repeat rw [if_neg h_9] at hl); (repeat rw [if_pos h_7]); (repeat rw [if_pos h_8]); (repeat rw [if_neg h_9]); exact hJ ls (lv_sub hl [0, 1, 2, 3, 4, 5, 6, 7] rfl))
              · refine lv_aload_n hx hb dX4_isMostlyKept_90 rfl (lv_at hl 2 rfl) ?_
                refine r_get (C := RX4) (T := TX4) (N := 6) hx hb hts i_X4_isMostlyKept_X4 hown hK f_o rfl 2 (by decide) k_X4_isMostlyKept_fieldLink_23 rfl rfl dX4_isMostlyKept_91 ?_
                refine lv_iload hx hb dX4_isMostlyKept_94 (lv_at hl 7 rfl) ?_
                refine lv_iconst (v := 3) hx hb dX4_isMostlyKept_96 (by decide) ?_
                refine ro_call (va_runV (As := [.int (nI k), .int 3]) (rest := []) hC (c_X2_at l G (ad 5) (ad 6) 40 5 (wAn wd) (nI k) 3) (cwV 2 hts gX4_isMostlyKept_X2_at rfl rfl rfl kd_X2_at ⟨Nat.le_of_ble_eq_true rfl, Nat.le_of_ble_eq_true rfl⟩) (ro_preV hK f_an.1 rfl f_an) rfl rfl hl.1 rfl (lv_room (Nat.le_of_ble_eq_true rfl)) dX4_isMostlyKept_97 ⟨Nat.zero_le _, Nat.zero_le _⟩) ?_
                refine lv_iconst (v := 1) hx hb dX4_isMostlyKept_100 (by decide) ?_
                refine lv_icmp_ne (tgt := 107) hx hb dX4_isMostlyKept_101 (by decide) (fun h_10 => ?_) (fun h_10 => ?_)
                · have hJ := J_6; (repeat rw [if_pos h_7] at hJ); (repeat rw [if_pos h_8] at hJ); (repeat rw [if_pos h_9] at hJ); (repeat rw [if_neg h_10] at hJ)
                  first | exact hJ ls (lv_sub hl [6, 0, 1, 2, 3, 4, 5, 7] rfl) | ((repeat rw [if_pos h_7] at hl); (repeat rw [if_pos h_8] at hl); (repeat rw [if_pos h_9] at hl); (repeat rw [if_neg h_10] at hl); (repeat rw [if_pos h_7]); (repeat rw [if_pos h_8]); (repeat rw [if_pos h_9]); (repeat rw [if_neg h_10]); exact hJ ls (lv_sub hl [6, 0, 1, 2, 3, 4, 5, 7] rfl))
                · refine lv_iinc (v := ((w_mostIt wd stuff age needs 0 0 k).2) + 1) (lv' := [(5, .int (((w_mostIt wd stuff age needs 0 0 k).2) + 1)), (4, .int (if (if (f_at 5 (wAn wd) (nI k) 4) < age then false else if (w_ofAsked wd (nI k) 0) = stuff then if (w_ofAsked wd (nI k) 6) = 0 then true else false else false) = true then ((w_mostIt wd stuff age needs 0 0 k).1) + 1 else (w_mostIt wd stuff age needs 0 0 k).1)), (7, .int (b2i (if (f_at 5 (wAn wd) (nI k) 4) < age then false else if (w_ofAsked wd (nI k) 0) = stuff then if (w_ofAsked wd (nI k) 6) = 0 then true else false else false))), (0, .ref (ad 0)), (1, .int stuff), (2, .int age), (3, .int (b2i needs)), (6, .int (nI k))]) hx hb dX4_isMostlyKept_104 hl (k := 6) rfl rfl (by decide) rfl (fun ls hl => ?_)
                  have hJ := J_6; (repeat rw [if_pos h_7] at hJ); (repeat rw [if_pos h_8] at hJ); (repeat rw [if_pos h_9] at hJ); (repeat rw [if_pos h_10] at hJ)
                  first | exact hJ ls (lv_sub hl [0, 1, 2, 3, 4, 5, 6, 7] rfl) | ((repeat rw [if_pos h_7] at hl); (repeat rw [if_pos h_8] at hl); (repeat rw [if_pos h_9] at hl); (repeat rw [if_pos h_10] at hl); (repeat rw [if_pos h_7]); (repeat rw [if_pos h_8]); (repeat rw [if_pos h_9]); (repeat rw [if_pos h_10]); exact hJ ls (lv_sub hl [0, 1, 2, 3, 4, 5, 6, 7] rfl))
      · refine bz_eq (tgt := 72) hx hb dX4_isMostlyKept_66 (by decide) (fun h_11 => ?_) (fun h_11 => ?_)
        · have hJ := J_5; (repeat rw [if_neg h_11] at hJ)
          first | exact hJ ls (lv_sub hl [5, 0, 1, 2, 3, 4, 6, 7] rfl) | ((repeat rw [if_neg h_11] at hl); (repeat rw [if_neg h_11]); exact hJ ls (lv_sub hl [5, 0, 1, 2, 3, 4, 6, 7] rfl))
        · refine lv_iinc (v := ((w_mostIt wd stuff age needs 0 0 k).1) + 1) (lv' := [(4, .int (((w_mostIt wd stuff age needs 0 0 k).1) + 1)), (7, .int (b2i (if (f_at 5 (wAn wd) (nI k) 4) < age then false else if (w_ofAsked wd (nI k) 0) = stuff then if (w_ofAsked wd (nI k) 6) = 0 then true else false else false))), (0, .ref (ad 0)), (1, .int stuff), (2, .int age), (3, .int (b2i needs)), (5, .int ((w_mostIt wd stuff age needs 0 0 k).2)), (6, .int (nI k))]) hx hb dX4_isMostlyKept_69 hl (k := 5) rfl rfl (by decide) rfl (fun ls hl => ?_)
          have hJ := J_5; (repeat rw [if_pos h_11] at hJ)
          first | exact hJ ls (lv_sub hl [0, 1, 2, 3, 4, 5, 6, 7] rfl) | ((repeat rw [if_pos h_11] at hl); (repeat rw [if_pos h_11]); exact hJ ls (lv_sub hl [0, 1, 2, 3, 4, 5, 6, 7] rfl))
    · refine lv_icmp_lt (tgt := 61) hx hb dX4_isMostlyKept_32 (by decide) (fun h_12 => ?_) (fun h_12 => ?_)
      · refine lv_iconst (v := 0) hx hb dX4_isMostlyKept_61 (by decide) ?_
        have hJ := J_4; (repeat rw [if_pos h_12] at hJ)
        first | exact hJ ls (lv_sub hl [0, 1, 2, 3, 4, 5, 6] rfl) | ((repeat rw [if_pos h_12] at hl); (repeat rw [if_pos h_12]); exact hJ ls (lv_sub hl [0, 1, 2, 3, 4, 5, 6] rfl))
      · refine lv_aload_n hx hb dX4_isMostlyKept_35 rfl (lv_at hl 0 rfl) ?_
        refine lv_iload hx hb dX4_isMostlyKept_36 (lv_at hl 6 rfl) ?_
        refine lv_iconst (v := 0) hx hb dX4_isMostlyKept_38 (by decide) ?_
        refine ro_call (va_runV (As := [.int (nI k), .int 0]) (rest := []) hC (c_X4_ofAsked l G ad wd (nI k) 0) (cwV 2 hts gX4_isMostlyKept_X4_ofAsked rfl rfl rfl kd_X4_ofAsked ⟨Nat.le_of_ble_eq_true rfl, Nat.le_of_ble_eq_true rfl⟩) (ro_preV hK f_o rfl hW) rfl rfl hl.1 rfl (lv_room (Nat.le_of_ble_eq_true rfl)) dX4_isMostlyKept_39 ⟨Nat.zero_le _, Nat.zero_le _⟩) ?_
        refine lv_iload_n hx hb dX4_isMostlyKept_42 rfl (lv_at hl 1 rfl) ?_
        refine lv_icmp_ne (tgt := 61) hx hb dX4_isMostlyKept_43 (by decide) (fun h_13 => ?_) (fun h_13 => ?_)
        · refine lv_iconst (v := 0) hx hb dX4_isMostlyKept_61 (by decide) ?_
          have hJ := J_4; (repeat rw [if_neg h_12] at hJ); (repeat rw [if_neg h_13] at hJ)
          first | exact hJ ls (lv_sub hl [0, 1, 2, 3, 4, 5, 6] rfl) | ((repeat rw [if_neg h_12] at hl); (repeat rw [if_neg h_13] at hl); (repeat rw [if_neg h_12]); (repeat rw [if_neg h_13]); exact hJ ls (lv_sub hl [0, 1, 2, 3, 4, 5, 6] rfl))
        · refine lv_aload_n hx hb dX4_isMostlyKept_46 rfl (lv_at hl 0 rfl) ?_
          refine lv_iload hx hb dX4_isMostlyKept_47 (lv_at hl 6 rfl) ?_
          refine lv_bipush (v := 6) hx hb dX4_isMostlyKept_49 (by decide +kernel) ?_
          refine ro_call (va_runV (As := [.int (nI k), .int 6]) (rest := []) hC (c_X4_ofAsked l G ad wd (nI k) 6) (cwV 2 hts gX4_isMostlyKept_X4_ofAsked rfl rfl rfl kd_X4_ofAsked ⟨Nat.le_of_ble_eq_true rfl, Nat.le_of_ble_eq_true rfl⟩) (ro_preV hK f_o rfl hW) rfl rfl hl.1 rfl (lv_room (Nat.le_of_ble_eq_true rfl)) dX4_isMostlyKept_51 ⟨Nat.zero_le _, Nat.zero_le _⟩) ?_
          refine lv_if_ne (tgt := 61) hx hb dX4_isMostlyKept_54 (by decide) (fun h_14 => ?_) (fun h_14 => ?_)
          · refine lv_iconst (v := 0) hx hb dX4_isMostlyKept_61 (by decide) ?_
            have hJ := J_4; (repeat rw [if_neg h_12] at hJ); (repeat rw [if_pos h_13] at hJ); (repeat rw [if_neg h_14] at hJ)
            first | exact hJ ls (lv_sub hl [0, 1, 2, 3, 4, 5, 6] rfl) | ((repeat rw [if_neg h_12] at hl); (repeat rw [if_pos h_13] at hl); (repeat rw [if_neg h_14] at hl); (repeat rw [if_neg h_12]); (repeat rw [if_pos h_13]); (repeat rw [if_neg h_14]); exact hJ ls (lv_sub hl [0, 1, 2, 3, 4, 5, 6] rfl))
          · refine lv_iconst (v := 1) hx hb dX4_isMostlyKept_57 (by decide) ?_
            refine lv_goto (tgt := 62) hx hb dX4_isMostlyKept_58 (by decide) ?_
            have hJ := J_4; (repeat rw [if_neg h_12] at hJ); (repeat rw [if_pos h_13] at hJ); (repeat rw [if_pos h_14] at hJ)
            first | exact hJ ls (lv_sub hl [0, 1, 2, 3, 4, 5, 6] rfl) | ((repeat rw [if_neg h_12] at hl); (repeat rw [if_pos h_13] at hl); (repeat rw [if_pos h_14] at hl); (repeat rw [if_neg h_12]); (repeat rw [if_pos h_13]); (repeat rw [if_pos h_14]); exact hJ ls (lv_sub hl [0, 1, 2, 3, 4, 5, 6] rfl))
theorem kd_X4_isMostlyKept : yX4_isMostlyKept.cls = RX4 ∧ yX4_isMostlyKept.cls ≠ "java/lang/invoke/MethodHandle" ∧ yX4_isMostlyKept.cls ≠ "java/lang/invoke/VarHandle" ∧ (parseMethodDescriptor yX4_isMostlyKept.desc).map (fun d => d.parameters.length) = some 3 := by decide +kernel
def w_ageGo (wd : WT) (stuff : Int32) (needs : Bool) : Nat → Nat → Int32
  | 0, _ => (-5)
  | n + 1, k => if (w_isMostlyKept wd stuff (nI k) needs) = true then nI k else w_ageGo wd stuff needs n (k + 1) 
theorem w_ageGo_0 (wd : WT) (stuff : Int32) (needs : Bool) (k : Nat)  : w_ageGo wd stuff needs 0 k  = ((-5)) := rfl
theorem w_ageGo_s (wd : WT) (stuff : Int32) (needs : Bool) (n k : Nat)  : w_ageGo wd stuff needs (n + 1) k  = (if (w_isMostlyKept wd stuff (nI k) needs) = true then nI k else w_ageGo wd stuff needs n (k + 1) ) := rfl
def w_ageOf (wd : WT) (stuff : Int32) (needs : Bool) : Int32 := w_ageGo wd stuff needs (121 - 24) 24 
set_option maxHeartbeats 4000000 in
set_option maxRecDepth 100000 in
theorem c_X4_ageOf (l : Launch) (G : GG) (ad : Nat → Nat) (wd : WT) (stuff : Int32) (needs : Bool)  : Met l yX4_ageOf wsX4_ageOf { frames := 3, cells := 0, slots := 0, locals := 71 } (roP G [.ref (ad 0), .int stuff, .int (b2i needs)] (fun H => WAt G ad wd H)) (roQ (some (.int (w_ageOf wd stuff needs)))) 0 0 nF := by
  refine Met.ofW (cc := cX4_ageOf) (maxL := 4) (ret := (some .int)) (by decide) rfl ?_
  intro p e s m args below meth c s₁ Bd hml hv
  obtain ⟨rfl, hK, hB⟩ := hv
  have hx := Bd.exec
  have hb := Bd.bytes
  have hr := Bd.returns
  have hts := atoms_spec (ws := wsX4_ageOf) Bd.pre
  have hown : s.vm.findClass RX4 = some m.cls := findClass_of_methodNamed Bd.named
  have hlocks := Bd.notSynchronized
  have hC : CallFix p m c cX4_ageOf 4 s _ wsX4_ageOf RX4 := ⟨hx, hb, hml, hown, hts⟩
  have hl := lv_entry ([.ref (ad 0), .int stuff, .int (b2i needs)]) (n := 4) (Nat.le_of_ble_eq_true rfl)
  rw [lg_entry_eq]
  generalize (lg_sl ([.ref (ad 0), .int stuff, .int (b2i needs)]) ++ List.replicate (4 - (lg_sl ([.ref (ad 0), .int stuff, .int (b2i needs)])).length) Slot.unset).toArray = ls at hl ⊢
  have hl : lv_has ls 4 [(0, .ref (ad 0)), (1, .int stuff), (2, .int (b2i needs))] := hl
  have hW := hB
  obtain ⟨f_o, f_ch, f_as, f_an, f_tp, ⟨qf, f_q, hqf⟩, f_lw, hlc⟩ := hB
  refine lv_bipush (v := 24) hx hb dX4_ageOf_0 (by decide +kernel) ?_
  refine lv_istore_n (lv' := [(3, .int 24), (0, .ref (ad 0)), (1, .int stuff), (2, .int (b2i needs))]) hx hb dX4_ageOf_2 rfl hl (by decide) rfl (fun ls hl => ?_)
  refine loop_at (nL := 4) (α := Nat) (fun a9 => [(0, .ref (ad 0)), (1, .int stuff), (2, .int (b2i needs)), (3, .int (nI a9))]) (fun a9 => a9 ≤ 121 ∧ w_ageGo wd stuff needs (121 - a9) a9  = w_ageGo wd stuff needs (121 - 24) 24 ) (fun a9 => 121 - a9) 24 ⟨(by first | exact Nat.zero_le _ | decide | omega), rfl⟩ (lv_sub hl [1, 2, 3, 0] rfl) (fun a9 hI9 ih_k ls hl => ?_)
  obtain ⟨k, rfl⟩ : ∃ z, z = a9 := ⟨_, rfl⟩
  obtain ⟨hk_k, hV⟩ : k ≤ 121 ∧ w_ageGo wd stuff needs (121 - k) k  = w_ageGo wd stuff needs (121 - 24) 24  := hI9
  have hl : lv_has ls 4 [(0, .ref (ad 0)), (1, .int stuff), (2, .int (b2i needs)), (3, .int (nI k))] := hl
  refine lv_iload_n hx hb dX4_ageOf_3 rfl (lv_at hl 3 rfl) ?_
  refine lv_bipush (v := 120) hx hb dX4_ageOf_4 (by decide +kernel) ?_
  refine lv_icmp_gt (tgt := 27) hx hb dX4_ageOf_6 (by decide) (fun h_1 => ?_) (fun h_1 => ?_)
  · have hN_k : k = 121 := gt_ex (N := 120) rfl h_1 hk_k (by omega)
    subst hN_k
    rw [Nat.sub_self] at hV
    refine lv_bipush (v := (-5)) hx hb dX4_ageOf_27 (by decide +kernel) ?_
    exact ro_iret hx hb hr hlocks dX4_ageOf_29 (by (try unfold w_ageOf); rw [← hV, w_ageGo_0]; first | done | rfl)
  · have hlt_k : k < 121 := gt_in (N := 120) rfl h_1 hk_k (by omega)
    obtain ⟨n9, hn9⟩ : ∃ n9, 121 - k = n9 + 1 := ⟨121 - k - 1, by omega⟩
    rw [hn9] at hV
    refine lv_aload_n hx hb dX4_ageOf_9 rfl (lv_at hl 0 rfl) ?_
    refine lv_iload_n hx hb dX4_ageOf_10 rfl (lv_at hl 1 rfl) ?_
    refine lv_iload_n hx hb dX4_ageOf_11 rfl (lv_at hl 3 rfl) ?_
    refine lv_iload_n hx hb dX4_ageOf_12 rfl (lv_at hl 2 rfl) ?_
    refine ro_call (va_runV (As := [.int stuff, .int (nI k), .int (b2i needs)]) (rest := []) hC (c_X4_isMostlyKept l G ad wd stuff (nI k) needs) (cwV 3 hts gX4_ageOf_X4_isMostlyKept rfl rfl rfl kd_X4_isMostlyKept ⟨Nat.le_of_ble_eq_true rfl, Nat.le_of_ble_eq_true rfl⟩) (ro_preV hK f_o rfl hW) rfl rfl hl.1 rfl (lv_room (Nat.le_of_ble_eq_true rfl)) dX4_ageOf_13 ⟨Nat.zero_le _, Nat.zero_le _⟩) ?_
    refine bz_eq (tgt := 21) hx hb dX4_ageOf_16 (by decide) (fun h_2 => ?_) (fun h_2 => ?_)
    · refine lv_iinc (v := (nI k) + 1) (lv' := [(3, .int ((nI k) + 1)), (0, .ref (ad 0)), (1, .int stuff), (2, .int (b2i needs))]) hx hb dX4_ageOf_21 hl (k := 3) rfl rfl (by decide) rfl (fun ls hl => ?_)
      refine lv_goto (tgt := 3) hx hb dX4_ageOf_24 (by decide) ?_
      have hE : w_ageGo wd stuff needs n9 (k + 1)  = w_ageGo wd stuff needs (121 - 24) 24  := (by rw [← hV, w_ageGo_s]; (repeat rw [if_neg h_2]); first | done | rfl)
      refine ih_k (k + 1) ⟨(show k + 1 ≤ 121 by omega), (by show w_ageGo wd stuff needs (121 - (k + 1)) (k + 1)  = _; rw [show 121 - (k + 1) = n9 by omega]; exact hE)⟩ (show 121 - (k + 1) < 121 - k by omega) ls ?_
      show lv_has ls 4 [(0, .ref (ad 0)), (1, .int stuff), (2, .int (b2i needs)), (3, .int (nI (k + 1)))]
      rw [nI_succ]
      exact lv_sub hl [1, 2, 3, 0] rfl
    · refine lv_iload_n hx hb dX4_ageOf_19 rfl (lv_at hl 3 rfl) ?_
      exact ro_iret hx hb hr hlocks dX4_ageOf_20 (by (try unfold w_ageOf); rw [← hV, w_ageGo_s]; (repeat rw [if_neg h_1]); (repeat rw [if_pos h_2]); first | done | rfl)

theorem g_put_size (nw : Nat) (x : RwT) (r0 c0 v0 : Int32) : (g_put nw x r0 c0 v0).1 = x.1 := by
  unfold g_put
  split
  · rfl
  · split
    · rfl
    · split
      · rfl
      · split
        · rfl
        · rfl
theorem i_X4_addChild_X4 : ∀ w ∈ wsX40, w ∈ wsX4_addChild := fun _ h => List.mem_cons_of_mem _ (List.mem_append_left _ (List.mem_append_right _ h))
theorem k_X4_addChild_fieldLink_14 : Cond.fieldLink RX4 14 "SameWater$World" "children" "LSameWater$Rows;" ∈ wsX4_addChild := by decide +kernel
theorem k_X4_addChild_constant_62 : Cond.constant RX4 62 (100000) ∈ wsX4_addChild := by decide +kernel
def u_addChild (wd : WT) (age : Int32) : Int32 × WT := (f_add 8 (wCh wd), (wSetCh wd (g_put 5 (g_put 5 (g_put 5 (g_put 5 (g_put 5 (g_add 8 (wCh wd)) (f_add 8 (wCh wd)) 0 age) (f_add 8 (wCh wd)) (1 + 0) 100000) (f_add 8 (wCh wd)) (1 + 1) 100000) (f_add 8 (wCh wd)) (1 + 2) 100000) (f_add 8 (wCh wd)) (1 + 3) 100000)))
set_option maxHeartbeats 4000000 in
set_option maxRecDepth 100000 in
theorem c_X4_addChild (l : Launch) (G : GG) (ad : Nat → Nat) (wd : WT) (age : Int32) (hN : wN ad) : Met l yX4_addChild wsX4_addChild { frames := 1, cells := 0, slots := 0, locals := 23 } (roP G [.ref (ad 0), .int age] (fun H => WAt G ad wd H)) (wrQ (some (.int ((u_addChild wd age).1))) (fun H => WAt G ad ((u_addChild wd age).2) H) (wA ad)) 0 0 (wA ad) := by
  refine Met.ofW (cc := cX4_addChild) (maxL := 4) (ret := (some .int)) (by decide) rfl ?_
  intro p e s m args below meth c s₁ Bd hml hv
  obtain ⟨rfl, hK, hB⟩ := hv
  have hx := Bd.exec
  have hb := Bd.bytes
  have hr := Bd.returns
  have hts := atoms_spec (ws := wsX4_addChild) Bd.pre
  have hown : s.vm.findClass RX4 = some m.cls := findClass_of_methodNamed Bd.named
  have hlocks := Bd.notSynchronized
  have hC : CallFix p m c cX4_addChild 4 s _ wsX4_addChild RX4 := ⟨hx, hb, hml, hown, hts⟩
  have hl := lv_entry ([.ref (ad 0), .int age]) (n := 4) (Nat.le_of_ble_eq_true rfl)
  rw [lg_entry_eq]
  generalize (lg_sl ([.ref (ad 0), .int age]) ++ List.replicate (4 - (lg_sl ([.ref (ad 0), .int age])).length) Slot.unset).toArray = ls at hl ⊢
  have hl : lv_has ls 4 [(0, .ref (ad 0)), (1, .int age)] := hl
  have hS : wS (wA ad) s.heap s.heap [] := wS.rf
  have f_s := hB
  have hZ := trivial
  refine lv_aload_n hx hb dX4_addChild_0 rfl (lv_at hl 0 rfl) ?_
  refine r_get (C := RX4) (T := TX4) (N := 6) hx hb hts i_X4_addChild_X4 hown hK f_s.1 rfl 0 (by decide) k_X4_addChild_fieldLink_14 rfl rfl dX4_addChild_1 ?_
  refine wr_call (va_runV (As := []) (rest := []) hC (c_X2_add l G (ad 1) (ad 2) 8 5 (wCh wd) (hN 1 2 (by decide) (by decide) (by decide))) (cwV 0 hts gX4_addChild_X2_add rfl rfl rfl kd_X2_add ⟨Nat.le_of_ble_eq_true rfl, Nat.le_of_ble_eq_true rfl⟩) (ro_preV hK f_s.2.1.1 rfl f_s.2.1) rfl rfl hl.1 rfl (lv_room (Nat.le_of_ble_eq_true rfl)) dX4_addChild_4 ⟨Nat.zero_le _, Nat.zero_le _⟩) hS (fun q h => (h ▸ wA.in ad 1 (by decide))) (fun H locs f_n hq hS => ?_)
  have f_s := ((f_s.setCh hN f_n (fun q h => hq q (fun e => h (Or.inl e)))) : WAt G ad (wSetCh wd (g_add 8 (wCh wd))) H)
  refine lv_istore_n (lv' := [(2, .int (f_add 8 (wCh wd))), (0, .ref (ad 0)), (1, .int age)]) hx hb dX4_addChild_7 rfl hl (by decide) rfl (fun ls hl => ?_)
  refine lv_aload_n hx hb dX4_addChild_8 rfl (lv_at hl 1 rfl) ?_
  refine r_get (C := RX4) (T := TX4) (N := 6) hx hb hts i_X4_addChild_X4 hown hK f_s.1 rfl 0 (by decide) k_X4_addChild_fieldLink_14 rfl rfl dX4_addChild_9 ?_
  refine lv_iload_n hx hb dX4_addChild_12 rfl (lv_at hl 0 rfl) ?_
  refine lv_iconst (v := 0) hx hb dX4_addChild_13 (by decide) ?_
  refine lv_iload_n hx hb dX4_addChild_14 rfl (lv_at hl 2 rfl) ?_
  refine wr_callv (va_runV (As := [.int (f_add 8 (wCh wd)), .int 0, .int age]) (rest := []) hC (c_X2_put l G (ad 1) (ad 2) 8 5 (g_add 8 (wCh wd)) (f_add 8 (wCh wd)) 0 age (hN 1 2 (by decide) (by decide) (by decide))) (cwV 3 hts gX4_addChild_X2_put rfl rfl rfl kd_X2_put ⟨Nat.le_of_ble_eq_true rfl, Nat.le_of_ble_eq_true rfl⟩) (ro_preV hK f_s.2.1.1 rfl f_s.2.1) rfl rfl hl.1 rfl (lv_room (Nat.le_of_ble_eq_true rfl)) dX4_addChild_15 ⟨Nat.zero_le _, Nat.zero_le _⟩) hS (fun q h => (h ▸ wA.in ad 2 (by decide))) (fun H locs f_n hq hS => ?_)
  have f_s := ((f_s.setCh hN f_n (fun q h => hq q (fun e => h (Or.inr e)))) : WAt G ad (wSetCh wd (g_put 5 (g_add 8 (wCh wd)) (f_add 8 (wCh wd)) 0 age)) H)
  refine lv_iconst (v := 0) hx hb dX4_addChild_18 (by decide) ?_
  refine lv_istore_n (lv' := [(3, .int 0), (2, .int (f_add 8 (wCh wd))), (0, .ref (ad 0)), (1, .int age)]) hx hb dX4_addChild_19 rfl hl (by decide) rfl (fun ls hl => ?_)
  refine lv_iload_n hx hb dX4_addChild_20 rfl (lv_at hl 0 rfl) ?_
  refine lv_iconst (v := 4) hx hb dX4_addChild_21 (by decide) ?_
  refine lv_icmp_ge (tgt := 44) hx hb dX4_addChild_22 (by decide) (fun h_1 => ?_) (fun h_1 => ?_)
  · exact absurd h_1 (by decide)
  · refine lv_aload_n hx hb dX4_addChild_25 rfl (lv_at hl 2 rfl) ?_
    refine r_get (C := RX4) (T := TX4) (N := 6) hx hb hts i_X4_addChild_X4 hown hK f_s.1 rfl 0 (by decide) k_X4_addChild_fieldLink_14 rfl rfl dX4_addChild_26 ?_
    refine lv_iload_n hx hb dX4_addChild_29 rfl (lv_at hl 1 rfl) ?_
    refine lv_iconst (v := 1) hx hb dX4_addChild_30 (by decide) ?_
    refine lv_iload_n hx hb dX4_addChild_31 rfl (lv_at hl 0 rfl) ?_
    refine lv_iadd hx hb dX4_addChild_32 ?_
    refine lv_ldc (v := 100000) hx hb hown (hts _ k_X4_addChild_constant_62) dX4_addChild_33 ?_
    refine wr_callv (va_runV (As := [.int (f_add 8 (wCh wd)), .int (1 + 0), .int 100000]) (rest := []) hC (c_X2_put l G (ad 1) (ad 2) 8 5 (g_put 5 (g_add 8 (wCh wd)) (f_add 8 (wCh wd)) 0 age) (f_add 8 (wCh wd)) (1 + 0) 100000 (hN 1 2 (by decide) (by decide) (by decide))) (cwV 3 hts gX4_addChild_X2_put rfl rfl rfl kd_X2_put ⟨Nat.le_of_ble_eq_true rfl, Nat.le_of_ble_eq_true rfl⟩) (ro_preV hK f_s.2.1.1 rfl f_s.2.1) rfl rfl hl.1 rfl (lv_room (Nat.le_of_ble_eq_true rfl)) dX4_addChild_35 ⟨Nat.zero_le _, Nat.zero_le _⟩) hS (fun q h => (h ▸ wA.in ad 2 (by decide))) (fun H locs f_n hq hS => ?_)
    have f_s := ((f_s.setCh hN f_n (fun q h => hq q (fun e => h (Or.inr e)))) : WAt G ad (wSetCh wd (g_put 5 (g_put 5 (g_add 8 (wCh wd)) (f_add 8 (wCh wd)) 0 age) (f_add 8 (wCh wd)) (1 + 0) 100000)) H)
    refine lv_iinc (v := 1) (lv' := [(3, .int 1), (2, .int (f_add 8 (wCh wd))), (0, .ref (ad 0)), (1, .int age)]) hx hb dX4_addChild_38 hl (k := 0) rfl (by decide) (by decide) rfl (fun ls hl => ?_)
    refine lv_goto (tgt := 20) hx hb dX4_addChild_41 (by decide) ?_
    refine lv_iload_n hx hb dX4_addChild_20 rfl (lv_at hl 0 rfl) ?_
    refine lv_iconst (v := 4) hx hb dX4_addChild_21 (by decide) ?_
    refine lv_icmp_ge (tgt := 44) hx hb dX4_addChild_22 (by decide) (fun h_2 => ?_) (fun h_2 => ?_)
    · exact absurd h_2 (by decide)
    · refine lv_aload_n hx hb dX4_addChild_25 rfl (lv_at hl 2 rfl) ?_
      refine r_get (C := RX4) (T := TX4) (N := 6) hx hb hts i_X4_addChild_X4 hown hK f_s.1 rfl 0 (by decide) k_X4_addChild_fieldLink_14 rfl rfl dX4_addChild_26 ?_
      refine lv_iload_n hx hb dX4_addChild_29 rfl (lv_at hl 1 rfl) ?_
      refine lv_iconst (v := 1) hx hb dX4_addChild_30 (by decide) ?_
      refine lv_iload_n hx hb dX4_addChild_31 rfl (lv_at hl 0 rfl) ?_
      refine lv_iadd hx hb dX4_addChild_32 ?_
      refine lv_ldc (v := 100000) hx hb hown (hts _ k_X4_addChild_constant_62) dX4_addChild_33 ?_
      refine wr_callv (va_runV (As := [.int (f_add 8 (wCh wd)), .int (1 + 1), .int 100000]) (rest := []) hC (c_X2_put l G (ad 1) (ad 2) 8 5 (g_put 5 (g_put 5 (g_add 8 (wCh wd)) (f_add 8 (wCh wd)) 0 age) (f_add 8 (wCh wd)) (1 + 0) 100000) (f_add 8 (wCh wd)) (1 + 1) 100000 (hN 1 2 (by decide) (by decide) (by decide))) (cwV 3 hts gX4_addChild_X2_put rfl rfl rfl kd_X2_put ⟨Nat.le_of_ble_eq_true rfl, Nat.le_of_ble_eq_true rfl⟩) (ro_preV hK f_s.2.1.1 rfl f_s.2.1) rfl rfl hl.1 rfl (lv_room (Nat.le_of_ble_eq_true rfl)) dX4_addChild_35 ⟨Nat.zero_le _, Nat.zero_le _⟩) hS (fun q h => (h ▸ wA.in ad 2 (by decide))) (fun H locs f_n hq hS => ?_)
      have f_s := ((f_s.setCh hN f_n (fun q h => hq q (fun e => h (Or.inr e)))) : WAt G ad (wSetCh wd (g_put 5 (g_put 5 (g_put 5 (g_add 8 (wCh wd)) (f_add 8 (wCh wd)) 0 age) (f_add 8 (wCh wd)) (1 + 0) 100000) (f_add 8 (wCh wd)) (1 + 1) 100000)) H)
      refine lv_iinc (v := 2) (lv' := [(3, .int 2), (2, .int (f_add 8 (wCh wd))), (0, .ref (ad 0)), (1, .int age)]) hx hb dX4_addChild_38 hl (k := 0) rfl (by decide) (by decide) rfl (fun ls hl => ?_)
      refine lv_goto (tgt := 20) hx hb dX4_addChild_41 (by decide) ?_
      refine lv_iload_n hx hb dX4_addChild_20 rfl (lv_at hl 0 rfl) ?_
      refine lv_iconst (v := 4) hx hb dX4_addChild_21 (by decide) ?_
      refine lv_icmp_ge (tgt := 44) hx hb dX4_addChild_22 (by decide) (fun h_3 => ?_) (fun h_3 => ?_)
      · exact absurd h_3 (by decide)
      · refine lv_aload_n hx hb dX4_addChild_25 rfl (lv_at hl 2 rfl) ?_
        refine r_get (C := RX4) (T := TX4) (N := 6) hx hb hts i_X4_addChild_X4 hown hK f_s.1 rfl 0 (by decide) k_X4_addChild_fieldLink_14 rfl rfl dX4_addChild_26 ?_
        refine lv_iload_n hx hb dX4_addChild_29 rfl (lv_at hl 1 rfl) ?_
        refine lv_iconst (v := 1) hx hb dX4_addChild_30 (by decide) ?_
        refine lv_iload_n hx hb dX4_addChild_31 rfl (lv_at hl 0 rfl) ?_
        refine lv_iadd hx hb dX4_addChild_32 ?_
        refine lv_ldc (v := 100000) hx hb hown (hts _ k_X4_addChild_constant_62) dX4_addChild_33 ?_
        refine wr_callv (va_runV (As := [.int (f_add 8 (wCh wd)), .int (1 + 2), .int 100000]) (rest := []) hC (c_X2_put l G (ad 1) (ad 2) 8 5 (g_put 5 (g_put 5 (g_put 5 (g_add 8 (wCh wd)) (f_add 8 (wCh wd)) 0 age) (f_add 8 (wCh wd)) (1 + 0) 100000) (f_add 8 (wCh wd)) (1 + 1) 100000) (f_add 8 (wCh wd)) (1 + 2) 100000 (hN 1 2 (by decide) (by decide) (by decide))) (cwV 3 hts gX4_addChild_X2_put rfl rfl rfl kd_X2_put ⟨Nat.le_of_ble_eq_true rfl, Nat.le_of_ble_eq_true rfl⟩) (ro_preV hK f_s.2.1.1 rfl f_s.2.1) rfl rfl hl.1 rfl (lv_room (Nat.le_of_ble_eq_true rfl)) dX4_addChild_35 ⟨Nat.zero_le _, Nat.zero_le _⟩) hS (fun q h => (h ▸ wA.in ad 2 (by decide))) (fun H locs f_n hq hS => ?_)
        have f_s := ((f_s.setCh hN f_n (fun q h => hq q (fun e => h (Or.inr e)))) : WAt G ad (wSetCh wd (g_put 5 (g_put 5 (g_put 5 (g_put 5 (g_add 8 (wCh wd)) (f_add 8 (wCh wd)) 0 age) (f_add 8 (wCh wd)) (1 + 0) 100000) (f_add 8 (wCh wd)) (1 + 1) 100000) (f_add 8 (wCh wd)) (1 + 2) 100000)) H)
        refine lv_iinc (v := 3) (lv' := [(3, .int 3), (2, .int (f_add 8 (wCh wd))), (0, .ref (ad 0)), (1, .int age)]) hx hb dX4_addChild_38 hl (k := 0) rfl (by decide) (by decide) rfl (fun ls hl => ?_)
        refine lv_goto (tgt := 20) hx hb dX4_addChild_41 (by decide) ?_
        refine lv_iload_n hx hb dX4_addChild_20 rfl (lv_at hl 0 rfl) ?_
        refine lv_iconst (v := 4) hx hb dX4_addChild_21 (by decide) ?_
        refine lv_icmp_ge (tgt := 44) hx hb dX4_addChild_22 (by decide) (fun h_4 => ?_) (fun h_4 => ?_)
        · exact absurd h_4 (by decide)
        · refine lv_aload_n hx hb dX4_addChild_25 rfl (lv_at hl 2 rfl) ?_
          refine r_get (C := RX4) (T := TX4) (N := 6) hx hb hts i_X4_addChild_X4 hown hK f_s.1 rfl 0 (by decide) k_X4_addChild_fieldLink_14 rfl rfl dX4_addChild_26 ?_
          refine lv_iload_n hx hb dX4_addChild_29 rfl (lv_at hl 1 rfl) ?_
          refine lv_iconst (v := 1) hx hb dX4_addChild_30 (by decide) ?_
          refine lv_iload_n hx hb dX4_addChild_31 rfl (lv_at hl 0 rfl) ?_
          refine lv_iadd hx hb dX4_addChild_32 ?_
          refine lv_ldc (v := 100000) hx hb hown (hts _ k_X4_addChild_constant_62) dX4_addChild_33 ?_
          refine wr_callv (va_runV (As := [.int (f_add 8 (wCh wd)), .int (1 + 3), .int 100000]) (rest := []) hC (c_X2_put l G (ad 1) (ad 2) 8 5 (g_put 5 (g_put 5 (g_put 5 (g_put 5 (g_add 8 (wCh wd)) (f_add 8 (wCh wd)) 0 age) (f_add 8 (wCh wd)) (1 + 0) 100000) (f_add 8 (wCh wd)) (1 + 1) 100000) (f_add 8 (wCh wd)) (1 + 2) 100000) (f_add 8 (wCh wd)) (1 + 3) 100000 (hN 1 2 (by decide) (by decide) (by decide))) (cwV 3 hts gX4_addChild_X2_put rfl rfl rfl kd_X2_put ⟨Nat.le_of_ble_eq_true rfl, Nat.le_of_ble_eq_true rfl⟩) (ro_preV hK f_s.2.1.1 rfl f_s.2.1) rfl rfl hl.1 rfl (lv_room (Nat.le_of_ble_eq_true rfl)) dX4_addChild_35 ⟨Nat.zero_le _, Nat.zero_le _⟩) hS (fun q h => (h ▸ wA.in ad 2 (by decide))) (fun H locs f_n hq hS => ?_)
          have f_s := ((f_s.setCh hN f_n (fun q h => hq q (fun e => h (Or.inr e)))) : WAt G ad (wSetCh wd (g_put 5 (g_put 5 (g_put 5 (g_put 5 (g_put 5 (g_add 8 (wCh wd)) (f_add 8 (wCh wd)) 0 age) (f_add 8 (wCh wd)) (1 + 0) 100000) (f_add 8 (wCh wd)) (1 + 1) 100000) (f_add 8 (wCh wd)) (1 + 2) 100000) (f_add 8 (wCh wd)) (1 + 3) 100000)) H)
          refine lv_iinc (v := 4) (lv' := [(3, .int 4), (2, .int (f_add 8 (wCh wd))), (0, .ref (ad 0)), (1, .int age)]) hx hb dX4_addChild_38 hl (k := 0) rfl (by decide) (by decide) rfl (fun ls hl => ?_)
          refine lv_goto (tgt := 20) hx hb dX4_addChild_41 (by decide) ?_
          refine lv_iload_n hx hb dX4_addChild_20 rfl (lv_at hl 0 rfl) ?_
          refine lv_iconst (v := 4) hx hb dX4_addChild_21 (by decide) ?_
          refine lv_icmp_ge (tgt := 44) hx hb dX4_addChild_22 (by decide) (fun h_5 => ?_) (fun h_5 => ?_)
          · refine lv_iload_n hx hb dX4_addChild_44 rfl (lv_at hl 1 rfl) ?_
            have hE9 : u_addChild wd age = (f_add 8 (wCh wd), (wSetCh wd (g_put 5 (g_put 5 (g_put 5 (g_put 5 (g_put 5 (g_add 8 (wCh wd)) (f_add 8 (wCh wd)) 0 age) (f_add 8 (wCh wd)) (1 + 0) 100000) (f_add 8 (wCh wd)) (1 + 1) 100000) (f_add 8 (wCh wd)) (1 + 2) 100000) (f_add 8 (wCh wd)) (1 + 3) 100000))) := (by (try unfold u_addChild); (repeat rw [if_neg h_1]); (repeat rw [if_neg h_2]); (repeat rw [if_neg h_3]); (repeat rw [if_neg h_4]); (repeat rw [if_pos h_5]); first | done | rfl)
            exact wr_iret hx hb hr hlocks dX4_addChild_45 hS (by rw [hE9]; exact f_s) (by rw [hE9]; first | done | rfl)
          · exact absurd (by decide) h_5
theorem i_X4_teachNow_X4 : ∀ w ∈ wsX40, w ∈ wsX4_teachNow := fun _ h => List.mem_cons_of_mem _ (List.mem_append_left _ (List.mem_append_right _ h))
theorem k_X4_teachNow_fieldLink_14 : Cond.fieldLink RX4 14 "SameWater$World" "children" "LSameWater$Rows;" ∈ wsX4_teachNow := by decide +kernel
theorem k_X4_teachNow_constant_62 : Cond.constant RX4 62 (100000) ∈ wsX4_teachNow := by decide +kernel
def u_teachNow (wd : WT) (child : Int32) (stuff : Int32) : Bool × WT := if (f_at 5 (wCh wd) child (1 + stuff)) = 100000 then (true, (wSetCh wd (g_put 5 (wCh wd) child (1 + stuff) (f_at 5 (wCh wd) child 0)))) else (false, wd)
set_option maxHeartbeats 4000000 in
set_option maxRecDepth 100000 in
theorem c_X4_teachNow (l : Launch) (G : GG) (ad : Nat → Nat) (wd : WT) (child : Int32) (stuff : Int32) (hN : wN ad) : Met l yX4_teachNow wsX4_teachNow { frames := 1, cells := 0, slots := 0, locals := 23 } (roP G [.ref (ad 0), .int child, .int stuff] (fun H => WAt G ad wd H)) (wrQ (some (.int (b2i ((u_teachNow wd child stuff).1)))) (fun H => WAt G ad ((u_teachNow wd child stuff).2) H) (wA ad)) 0 0 (wA ad) := by
  refine Met.ofW (cc := cX4_teachNow) (maxL := 3) (ret := (some .boolean)) (by decide) rfl ?_
  intro p e s m args below meth c s₁ Bd hml hv
  obtain ⟨rfl, hK, hB⟩ := hv
  have hx := Bd.exec
  have hb := Bd.bytes
  have hr := Bd.returns
  have hts := atoms_spec (ws := wsX4_teachNow) Bd.pre
  have hown : s.vm.findClass RX4 = some m.cls := findClass_of_methodNamed Bd.named
  have hlocks := Bd.notSynchronized
  have hC : CallFix p m c cX4_teachNow 3 s _ wsX4_teachNow RX4 := ⟨hx, hb, hml, hown, hts⟩
  have hl := lv_entry ([.ref (ad 0), .int child, .int stuff]) (n := 3) (Nat.le_of_ble_eq_true rfl)
  rw [lg_entry_eq]
  generalize (lg_sl ([.ref (ad 0), .int child, .int stuff]) ++ List.replicate (3 - (lg_sl ([.ref (ad 0), .int child, .int stuff])).length) Slot.unset).toArray = ls at hl ⊢
  have hl : lv_has ls 3 [(0, .ref (ad 0)), (1, .int child), (2, .int stuff)] := hl
  have hS : wS (wA ad) s.heap s.heap [] := wS.rf
  have f_s := hB
  have hZ := trivial
  refine lv_aload_n hx hb dX4_teachNow_0 rfl (lv_at hl 0 rfl) ?_
  refine r_get (C := RX4) (T := TX4) (N := 6) hx hb hts i_X4_teachNow_X4 hown hK f_s.1 rfl 0 (by decide) k_X4_teachNow_fieldLink_14 rfl rfl dX4_teachNow_1 ?_
  refine lv_iload_n hx hb dX4_teachNow_4 rfl (lv_at hl 1 rfl) ?_
  refine lv_iconst (v := 1) hx hb dX4_teachNow_5 (by decide) ?_
  refine lv_iload_n hx hb dX4_teachNow_6 rfl (lv_at hl 2 rfl) ?_
  refine lv_iadd hx hb dX4_teachNow_7 ?_
  refine ro_call (va_runV (As := [.int child, .int (1 + stuff)]) (rest := []) hC (c_X2_at l G (ad 1) (ad 2) 8 5 (wCh wd) child (1 + stuff)) (cwV 2 hts gX4_teachNow_X2_at rfl rfl rfl kd_X2_at ⟨Nat.le_of_ble_eq_true rfl, Nat.le_of_ble_eq_true rfl⟩) (ro_preV hK f_s.2.1.1 rfl f_s.2.1) rfl rfl hl.1 rfl (lv_room (Nat.le_of_ble_eq_true rfl)) dX4_teachNow_8 ⟨Nat.zero_le _, Nat.zero_le _⟩) ?_
  refine lv_ldc (v := 100000) hx hb hown (hts _ k_X4_teachNow_constant_62) dX4_teachNow_11 ?_
  refine lv_icmp_eq (tgt := 18) hx hb dX4_teachNow_13 (by decide) (fun h_1 => ?_) (fun h_1 => ?_)
  · refine lv_aload_n hx hb dX4_teachNow_18 rfl (lv_at hl 0 rfl) ?_
    refine r_get (C := RX4) (T := TX4) (N := 6) hx hb hts i_X4_teachNow_X4 hown hK f_s.1 rfl 0 (by decide) k_X4_teachNow_fieldLink_14 rfl rfl dX4_teachNow_19 ?_
    refine lv_iload_n hx hb dX4_teachNow_22 rfl (lv_at hl 1 rfl) ?_
    refine lv_iconst (v := 1) hx hb dX4_teachNow_23 (by decide) ?_
    refine lv_iload_n hx hb dX4_teachNow_24 rfl (lv_at hl 2 rfl) ?_
    refine lv_iadd hx hb dX4_teachNow_25 ?_
    refine lv_aload_n hx hb dX4_teachNow_26 rfl (lv_at hl 0 rfl) ?_
    refine r_get (C := RX4) (T := TX4) (N := 6) hx hb hts i_X4_teachNow_X4 hown hK f_s.1 rfl 0 (by decide) k_X4_teachNow_fieldLink_14 rfl rfl dX4_teachNow_27 ?_
    refine lv_iload_n hx hb dX4_teachNow_30 rfl (lv_at hl 1 rfl) ?_
    refine lv_iconst (v := 0) hx hb dX4_teachNow_31 (by decide) ?_
    refine ro_call (va_runV (As := [.int child, .int 0]) (rest := [.int (1 + stuff), .int child, .ref (ad 1)]) hC (c_X2_at l G (ad 1) (ad 2) 8 5 (wCh wd) child 0) (cwV 2 hts gX4_teachNow_X2_at rfl rfl rfl kd_X2_at ⟨Nat.le_of_ble_eq_true rfl, Nat.le_of_ble_eq_true rfl⟩) (ro_preV hK f_s.2.1.1 rfl f_s.2.1) rfl rfl hl.1 rfl (lv_room (Nat.le_of_ble_eq_true rfl)) dX4_teachNow_32 ⟨Nat.zero_le _, Nat.zero_le _⟩) ?_
    refine wr_callv (va_runV (As := [.int child, .int (1 + stuff), .int (f_at 5 (wCh wd) child 0)]) (rest := []) hC (c_X2_put l G (ad 1) (ad 2) 8 5 (wCh wd) child (1 + stuff) (f_at 5 (wCh wd) child 0) (hN 1 2 (by decide) (by decide) (by decide))) (cwV 3 hts gX4_teachNow_X2_put rfl rfl rfl kd_X2_put ⟨Nat.le_of_ble_eq_true rfl, Nat.le_of_ble_eq_true rfl⟩) (ro_preV hK f_s.2.1.1 rfl f_s.2.1) rfl rfl hl.1 rfl (lv_room (Nat.le_of_ble_eq_true rfl)) dX4_teachNow_35 ⟨Nat.zero_le _, Nat.zero_le _⟩) hS (fun q h => (h ▸ wA.in ad 2 (by decide))) (fun H locs f_n hq hS => ?_)
    have f_s := ((f_s.setCh hN f_n (fun q h => hq q (fun e => h (Or.inr e)))) : WAt G ad (wSetCh wd (g_put 5 (wCh wd) child (1 + stuff) (f_at 5 (wCh wd) child 0))) H)
    refine lv_iconst (v := 1) hx hb dX4_teachNow_38 (by decide) ?_
    have hE9 : u_teachNow wd child stuff = (true, (wSetCh wd (g_put 5 (wCh wd) child (1 + stuff) (f_at 5 (wCh wd) child 0)))) := (by (try unfold u_teachNow); (repeat rw [if_pos h_1]); first | done | rfl)
    exact wr_zret hx hb hr hlocks dX4_teachNow_39 hS (by rw [hE9]; exact f_s) (by rw [hE9]; first | done | rfl)
  · refine lv_iconst (v := 0) hx hb dX4_teachNow_16 (by decide) ?_
    have hE9 : u_teachNow wd child stuff = (false, wd) := (by (try unfold u_teachNow); (repeat rw [if_neg h_1]); first | done | rfl)
    exact wr_zret hx hb hr hlocks dX4_teachNow_17 hS (by rw [hE9]; exact f_s) (by rw [hE9]; first | done | rfl)
theorem i_X4_growBy_X4 : ∀ w ∈ wsX40, w ∈ wsX4_growBy := fun _ h => List.mem_cons_of_mem _ (List.mem_append_left _ (List.mem_append_right _ h))
theorem k_X4_growBy_fieldLink_14 : Cond.fieldLink RX4 14 "SameWater$World" "children" "LSameWater$Rows;" ∈ wsX4_growBy := by decide +kernel
theorem i_X4_growBy_X2 : ∀ w ∈ wsX20, w ∈ wsX4_growBy := fun _ h => List.mem_cons_of_mem _ (List.mem_append_right _ h)
theorem k_X4_growBy_fieldLink_63 : Cond.fieldLink RX4 63 "SameWater$Rows" "size" "I" ∈ wsX4_growBy := by decide +kernel
theorem k_X4_growBy_methodLink_70 : Cond.methodLink RX4 70 Lib.Math.min.name ∈ wsX4_growBy := by decide +kernel
theorem k_X4_growBy_mst_70 : Cond.static Lib.Math.min.name ∈ wsX4_growBy := by decide +kernel
theorem k_X4_growBy_min_70 : Cond.initialized "java/lang/Math" ∈ wsX4_growBy := by decide +kernel
theorem k_X4_growBy_mco_70 : Cond.code Lib.Math.min.name Lib.Math.min.code 2 (some .int) ∈ wsX4_growBy := by decide +kernel
def u_growGo (nn : Int32) : Nat → Nat → WT → WT
  | 0, _, wd_k => wd_k
  | n + 1, k, wd_k => u_growGo nn n (k + 1) (wSetCh wd_k (g_put 5 (wCh wd_k) (nI k) 0 (if 120 < ((f_at 5 (wCh wd_k) (nI k) 0) + nn) then 120 else ((f_at 5 (wCh wd_k) (nI k) 0) + nn))))
theorem u_growGo_0 (nn : Int32) (k : Nat) (wd_k : WT) : u_growGo nn 0 k wd_k = (wd_k) := rfl
theorem u_growGo_s (nn : Int32) (n k : Nat) (wd_k : WT) : u_growGo nn (n + 1) k wd_k = (u_growGo nn n (k + 1) (wSetCh wd_k (g_put 5 (wCh wd_k) (nI k) 0 (if 120 < ((f_at 5 (wCh wd_k) (nI k) 0) + nn) then 120 else ((f_at 5 (wCh wd_k) (nI k) 0) + nn))))) := rfl
def u_growBy (wd : WT) (nn : Int32) : WT := u_growGo nn ((wCh wd).1) 0 wd
set_option maxHeartbeats 4000000 in
set_option maxRecDepth 100000 in
theorem c_X4_growBy (l : Launch) (G : GG) (ad : Nat → Nat) (wd : WT) (nn : Int32) (hN : wN ad) : Met l yX4_growBy wsX4_growBy { frames := 1, cells := 0, slots := 0, locals := 40 } (roP G [.ref (ad 0), .int nn] (fun H => WAt G ad wd H)) (wrQ none (fun H => WAt G ad (u_growBy wd nn) H) (wA ad)) 0 0 (wA ad) := by
  refine Met.ofW (cc := cX4_growBy) (maxL := 3) (ret := none) (by decide) rfl ?_
  intro p e s m args below meth c s₁ Bd hml hv
  obtain ⟨rfl, hK, hB⟩ := hv
  have hx := Bd.exec
  have hb := Bd.bytes
  have hr := Bd.returns
  have hts := atoms_spec (ws := wsX4_growBy) Bd.pre
  have hown : s.vm.findClass RX4 = some m.cls := findClass_of_methodNamed Bd.named
  have hlocks := Bd.notSynchronized
  have hC : CallFix p m c cX4_growBy 3 s _ wsX4_growBy RX4 := ⟨hx, hb, hml, hown, hts⟩
  have hl := lv_entry ([.ref (ad 0), .int nn]) (n := 3) (Nat.le_of_ble_eq_true rfl)
  rw [lg_entry_eq]
  generalize (lg_sl ([.ref (ad 0), .int nn]) ++ List.replicate (3 - (lg_sl ([.ref (ad 0), .int nn])).length) Slot.unset).toArray = ls at hl ⊢
  have hl : lv_has ls 3 [(0, .ref (ad 0)), (1, .int nn)] := hl
  have hS : wS (wA ad) s.heap s.heap [] := wS.rf
  have f_s := hB
  have hZ := trivial
  have hsz9 : (wCh wd).1 ≤ 8 := f_s.2.1.2.2.1
  refine lv_iconst (v := 0) hx hb dX4_growBy_0 (by decide) ?_
  refine lv_istore_n (lv' := [(2, .int 0), (0, .ref (ad 0)), (1, .int nn)]) hx hb dX4_growBy_1 rfl hl (by decide) rfl (fun ls hl => ?_)
  refine loop_wr (nL := 3) (α := Nat × WT) (fun a9 => [(0, .ref (ad 0)), (1, .int nn), (2, .int (nI (a9.1)))]) (fun a9 H locs => ((a9.1 ≤ (wCh wd).1 ∧ u_growGo nn (((wCh wd).1) - a9.1) a9.1 a9.2 = u_growGo nn ((wCh wd).1) 0 wd) ∧ ((wCh (a9.2)).1 = (wCh wd).1)) ∧ (WAt G ad (a9.2) H) ∧ wS (wA ad) s.heap H locs ∧ True) (fun a9 => (wCh wd).1 - a9.1) (0, wd) ⟨⟨⟨(by first | exact Nat.zero_le _ | decide | omega), rfl⟩, rfl⟩, f_s, hS, hZ⟩ (lv_sub hl [1, 2, 0] rfl) (fun a9 H locs hI9 ih_k ls hl => ?_)
  obtain ⟨k, wd_k⟩ := a9
  obtain ⟨⟨hI9, hX9⟩, f_s, hS, hZ⟩ := hI9
  have hX9 : (wCh wd_k).1 = (wCh wd).1 := hX9
  have f_s : WAt G ad wd_k H := f_s
  obtain ⟨hk_k, hV⟩ : k ≤ (wCh wd).1 ∧ u_growGo nn (((wCh wd).1) - k) k wd_k = u_growGo nn ((wCh wd).1) 0 wd := hI9
  have hl : lv_has ls 3 [(0, .ref (ad 0)), (1, .int nn), (2, .int (nI k))] := hl
  refine lv_iload_n hx hb dX4_growBy_2 rfl (lv_at hl 2 rfl) ?_
  refine lv_aload_n hx hb dX4_growBy_3 rfl (lv_at hl 0 rfl) ?_
  refine r_get (C := RX4) (T := TX4) (N := 6) hx hb hts i_X4_growBy_X4 hown hK f_s.1 rfl 0 (by decide) k_X4_growBy_fieldLink_14 rfl rfl dX4_growBy_4 ?_
  refine r_get (C := RX2) (T := TX2) (N := 4) hx hb hts i_X4_growBy_X2 hown hK f_s.2.1.1 rfl 3 (by decide) k_X4_growBy_fieldLink_63 rfl rfl dX4_growBy_7 ?_
  refine lv_icmp_ge (tgt := 44) hx hb dX4_growBy_10 (by decide) (fun h_1 => ?_) (fun h_1 => ?_)
  · have hN_k : k = (wCh wd).1 := ge_ex (N := (wCh wd).1) (congrArg nI hX9) h_1 hk_k (by have := hsz9; omega)
    subst hN_k
    rw [Nat.sub_self] at hV
    have hE9 : u_growBy wd nn = wd_k := (by (try unfold u_growBy); rw [← hV, u_growGo_0]; first | done | rfl)
    exact wr_vret hx hb hr hlocks dX4_growBy_44 hS (by rw [hE9]; exact f_s)
  · have hlt_k : k < (wCh wd).1 := ge_in (N := (wCh wd).1) (congrArg nI hX9) h_1 hk_k (by have := hsz9; omega)
    obtain ⟨n9, hn9⟩ : ∃ n9, ((wCh wd).1) - k = n9 + 1 := ⟨((wCh wd).1) - k - 1, by omega⟩
    rw [hn9] at hV
    refine lv_aload_n hx hb dX4_growBy_13 rfl (lv_at hl 0 rfl) ?_
    refine r_get (C := RX4) (T := TX4) (N := 6) hx hb hts i_X4_growBy_X4 hown hK f_s.1 rfl 0 (by decide) k_X4_growBy_fieldLink_14 rfl rfl dX4_growBy_14 ?_
    refine lv_iload_n hx hb dX4_growBy_17 rfl (lv_at hl 2 rfl) ?_
    refine lv_iconst (v := 0) hx hb dX4_growBy_18 (by decide) ?_
    refine lv_aload_n hx hb dX4_growBy_19 rfl (lv_at hl 0 rfl) ?_
    refine r_get (C := RX4) (T := TX4) (N := 6) hx hb hts i_X4_growBy_X4 hown hK f_s.1 rfl 0 (by decide) k_X4_growBy_fieldLink_14 rfl rfl dX4_growBy_20 ?_
    refine lv_iload_n hx hb dX4_growBy_23 rfl (lv_at hl 2 rfl) ?_
    refine lv_iconst (v := 0) hx hb dX4_growBy_24 (by decide) ?_
    refine ro_call (va_runV (As := [.int (nI k), .int 0]) (rest := [.int 0, .int (nI k), .ref (ad 1)]) hC (c_X2_at l G (ad 1) (ad 2) 8 5 (wCh wd_k) (nI k) 0) (cwV 2 hts gX4_growBy_X2_at rfl rfl rfl kd_X2_at ⟨Nat.le_of_ble_eq_true rfl, Nat.le_of_ble_eq_true rfl⟩) (ro_preV hK f_s.2.1.1 rfl f_s.2.1) rfl rfl hl.1 rfl (lv_room (Nat.le_of_ble_eq_true rfl)) dX4_growBy_25 ⟨Nat.zero_le _, Nat.zero_le _⟩) ?_
    refine lv_iload_n hx hb dX4_growBy_28 rfl (lv_at hl 1 rfl) ?_
    refine lv_iadd hx hb dX4_growBy_29 ?_
    refine lv_bipush (v := 120) hx hb dX4_growBy_30 (by decide +kernel) ?_
    refine va_mmin hx hb (hml.trans hl.1.symm) hown (hts _ k_X4_growBy_methodLink_70) (hts _ k_X4_growBy_mst_70) (hts _ k_X4_growBy_min_70) (hts _ k_X4_growBy_mco_70) (Nat.le_of_ble_eq_true rfl) (Nat.le_of_ble_eq_true rfl) (Nat.zero_le _) (Nat.zero_le _) dX4_growBy_32 ?_
    refine wr_callv (va_runV (As := [.int (nI k), .int 0, .int (if 120 < ((f_at 5 (wCh wd_k) (nI k) 0) + nn) then 120 else ((f_at 5 (wCh wd_k) (nI k) 0) + nn))]) (rest := []) hC (c_X2_put l G (ad 1) (ad 2) 8 5 (wCh wd_k) (nI k) 0 (if 120 < ((f_at 5 (wCh wd_k) (nI k) 0) + nn) then 120 else ((f_at 5 (wCh wd_k) (nI k) 0) + nn)) (hN 1 2 (by decide) (by decide) (by decide))) (cwV 3 hts gX4_growBy_X2_put rfl rfl rfl kd_X2_put ⟨Nat.le_of_ble_eq_true rfl, Nat.le_of_ble_eq_true rfl⟩) (ro_preV hK f_s.2.1.1 rfl f_s.2.1) rfl rfl hl.1 rfl (lv_room (Nat.le_of_ble_eq_true rfl)) dX4_growBy_35 ⟨Nat.zero_le _, Nat.zero_le _⟩) hS (fun q h => (h ▸ wA.in ad 2 (by decide))) (fun H locs f_n hq hS => ?_)
    have f_s := ((f_s.setCh hN f_n (fun q h => hq q (fun e => h (Or.inr e)))) : WAt G ad (wSetCh wd_k (g_put 5 (wCh wd_k) (nI k) 0 (if 120 < ((f_at 5 (wCh wd_k) (nI k) 0) + nn) then 120 else ((f_at 5 (wCh wd_k) (nI k) 0) + nn)))) H)
    refine lv_iinc (v := (nI k) + 1) (lv' := [(2, .int ((nI k) + 1)), (0, .ref (ad 0)), (1, .int nn)]) hx hb dX4_growBy_38 hl (k := 2) rfl rfl (by decide) rfl (fun ls hl => ?_)
    refine lv_goto (tgt := 2) hx hb dX4_growBy_41 (by decide) ?_
    have hE : u_growGo nn n9 (k + 1) (wSetCh wd_k (g_put 5 (wCh wd_k) (nI k) 0 (if 120 < ((f_at 5 (wCh wd_k) (nI k) 0) + nn) then 120 else ((f_at 5 (wCh wd_k) (nI k) 0) + nn)))) = u_growGo nn ((wCh wd).1) 0 wd := (by rw [← hV, u_growGo_s]; first | done | rfl)
    refine ih_k ((k + 1, (wSetCh wd_k (g_put 5 (wCh wd_k) (nI k) 0 (if 120 < ((f_at 5 (wCh wd_k) (nI k) 0) + nn) then 120 else ((f_at 5 (wCh wd_k) (nI k) 0) + nn)))))) _ _ ⟨⟨⟨(show k + 1 ≤ (wCh wd).1 by omega), (by show u_growGo nn (((wCh wd).1) - (k + 1)) (k + 1) (wSetCh wd_k (g_put 5 (wCh wd_k) (nI k) 0 (if 120 < ((f_at 5 (wCh wd_k) (nI k) 0) + nn) then 120 else ((f_at 5 (wCh wd_k) (nI k) 0) + nn)))) = _; rw [show ((wCh wd).1) - (k + 1) = n9 by omega]; exact hE)⟩, (by show (g_put _ _ _ _ _).1 = _; rw [g_put_size]; exact hX9)⟩, f_s, hS, hZ⟩ (show ((wCh wd).1) - (k + 1) < ((wCh wd).1) - k by omega) ls ?_
    show lv_has ls 3 [(0, .ref (ad 0)), (1, .int nn), (2, .int (nI (k + 1)))]
    rw [nI_succ]
    exact lv_sub hl [1, 2, 0] rfl

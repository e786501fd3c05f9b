theorem i_X5_child_X5 : ∀ w ∈ wsX50, w ∈ wsX5_child := fun _ h => List.mem_cons_of_mem _ (List.mem_append_left _ (List.mem_append_left _ (List.mem_append_right _ h)))
theorem k_X5_child_fieldLink_14 : Cond.fieldLink RX5 14 "SameWater" "now" "LSameWater$World;" ∈ wsX5_child := by decide +kernel
theorem i_X5_child_X4 : ∀ w ∈ wsX40, w ∈ wsX5_child := fun _ h => List.mem_cons_of_mem _ (List.mem_append_left _ (List.mem_append_right _ h))
theorem k_X5_child_fieldLink_28 : Cond.fieldLink RX5 28 "SameWater$World" "children" "LSameWater$Rows;" ∈ wsX5_child := by decide +kernel
theorem kd_X2_isFull : yX2_isFull.cls = RX2 ∧ yX2_isFull.cls ≠ "java/lang/invoke/MethodHandle" ∧ yX2_isFull.cls ≠ "java/lang/invoke/VarHandle" ∧ (parseMethodDescriptor yX2_isFull.desc).map (fun d => d.parameters.length) = some 0 := by decide +kernel
theorem kd_X4_addChild : yX4_addChild.cls = RX4 ∧ yX4_addChild.cls ≠ "java/lang/invoke/MethodHandle" ∧ yX4_addChild.cls ≠ "java/lang/invoke/VarHandle" ∧ (parseMethodDescriptor yX4_addChild.desc).map (fun d => d.parameters.length) = some 1 := by decide +kernel
def s_child (wd : WT) (age : Int32) : Int32 × WT := if age < 24 then ((-2), wd) else if age ≤ 120 then if (f_isFull 8 (wCh wd)) = true then ((-4), wd) else ((u_addChild wd age).1, (u_addChild wd age).2) else ((-2), wd)
set_option maxHeartbeats 4000000 in
set_option maxRecDepth 100000 in
theorem c_X5_child (l : Launch) (G : GG) (AD ad td : Nat → Nat) (wd wt : WT) (tk : Bool) (rn : Int32) (bo : Nat → Int32) (age : Int32) (hN : cN AD ad td) : Met l yX5_child wsX5_child { frames := 2, cells := 0, slots := 0, locals := 46 } (roP G [.ref (AD 0), .int age] (fun H => CAt G AD ad td wd wt tk rn bo H)) (wrQ (some (.int ((s_child wd age).1))) (fun H => CAt G AD ad td ((s_child wd age).2) wt tk rn bo H) (cA AD ad td)) 0 0 (cA AD ad td) := by
  refine Met.ofW (cc := cX5_child) (maxL := 2) (ret := (some .int)) (by decide) rfl ?_
  intro p e s m args below meth c s₁ Bd hml hv
  obtain ⟨rfl, hK, hB⟩ := hv
  have hx := Bd.exec
  have hb := Bd.bytes
  have hr := Bd.returns
  have hts := atoms_spec (ws := wsX5_child) Bd.pre
  have hown : s.vm.findClass RX5 = some m.cls := findClass_of_methodNamed Bd.named
  have hlocks := Bd.notSynchronized
  have hC : CallFix p m c cX5_child 2 s _ wsX5_child RX5 := ⟨hx, hb, hml, hown, hts⟩
  have hl := lv_entry ([.ref (AD 0), .int age]) (n := 2) (Nat.le_of_ble_eq_true rfl)
  rw [lg_entry_eq]
  generalize (lg_sl ([.ref (AD 0), .int age]) ++ List.replicate (2 - (lg_sl ([.ref (AD 0), .int age])).length) Slot.unset).toArray = ls at hl ⊢
  have hl : lv_has ls 2 [(0, .ref (AD 0)), (1, .int age)] := hl
  have hS : wS (cA AD ad td) s.heap s.heap [] := wS.rf
  have f_s := hB
  have hZ := trivial
  refine lv_iload_n hx hb dX5_child_0 rfl (lv_at hl 1 rfl) ?_
  refine lv_bipush (v := 24) hx hb dX5_child_1 (by decide +kernel) ?_
  refine lv_icmp_lt (tgt := 12) hx hb dX5_child_3 (by decide) (fun h_1 => ?_) (fun h_1 => ?_)
  · refine lv_bipush (v := (-2)) hx hb dX5_child_12 (by decide +kernel) ?_
    have hE9 : s_child wd age = ((-2), wd) := (by (try unfold s_child); (repeat rw [if_pos h_1]); first | done | rfl)
    exact wr_iret hx hb hr hlocks dX5_child_14 hS (by rw [hE9]; exact f_s) (by rw [hE9]; first | done | rfl)
  · refine lv_iload_n hx hb dX5_child_6 rfl (lv_at hl 1 rfl) ?_
    refine lv_bipush (v := 120) hx hb dX5_child_7 (by decide +kernel) ?_
    refine lv_icmp_le (tgt := 15) hx hb dX5_child_9 (by decide) (fun h_2 => ?_) (fun h_2 => ?_)
    · refine lv_aload_n hx hb dX5_child_15 rfl (lv_at hl 0 rfl) ?_
      refine r_get (C := RX5) (T := TX5) (N := 4) hx hb hts i_X5_child_X5 hown hK f_s.1 rfl 0 (by decide) k_X5_child_fieldLink_14 rfl rfl dX5_child_16 ?_
      refine r_get (C := RX4) (T := TX4) (N := 6) hx hb hts i_X5_child_X4 hown hK f_s.2.1.1 rfl 0 (by decide) k_X5_child_fieldLink_28 rfl rfl dX5_child_19 ?_
      refine ro_call (va_runV (As := []) (rest := []) hC (c_X2_isFull l G (ad 1) (ad 2) 8 5 (wCh wd)) (cwV 0 hts gX5_child_X2_isFull rfl rfl rfl kd_X2_isFull ⟨Nat.le_of_ble_eq_true rfl, Nat.le_of_ble_eq_true rfl⟩) (ro_preV hK f_s.2.1.2.1.1 rfl f_s.2.1.2.1) rfl rfl hl.1 rfl (lv_room (Nat.le_of_ble_eq_true rfl)) dX5_child_22 ⟨Nat.zero_le _, Nat.zero_le _⟩) ?_
      refine bz_eq (tgt := 33) hx hb dX5_child_25 (by decide) (fun h_3 => ?_) (fun h_3 => ?_)
      · refine lv_aload_n hx hb dX5_child_33 rfl (lv_at hl 0 rfl) ?_
        refine r_get (C := RX5) (T := TX5) (N := 4) hx hb hts i_X5_child_X5 hown hK f_s.1 rfl 0 (by decide) k_X5_child_fieldLink_14 rfl rfl dX5_child_34 ?_
        refine lv_iload_n hx hb dX5_child_37 rfl (lv_at hl 1 rfl) ?_
        refine wr_call (va_runV (As := [.int age]) (rest := []) hC (c_X4_addChild l G ad wd age hN.1) (cwV 1 hts gX5_child_X4_addChild rfl rfl rfl kd_X4_addChild ⟨Nat.le_of_ble_eq_true rfl, Nat.le_of_ble_eq_true rfl⟩) (ro_preV hK f_s.2.1.1 rfl f_s.2.1) rfl rfl hl.1 rfl (lv_room (Nat.le_of_ble_eq_true rfl)) dX5_child_38 ⟨Nat.zero_le _, Nat.zero_le _⟩) hS (fun q h => (Or.inr (Or.inl h))) (fun H locs f_n hq hS => ?_)
        have f_s := (f_s.setNow hN f_n hq)
        have hE9 : s_child wd age = ((u_addChild wd age).1, (u_addChild wd age).2) := (by (try unfold s_child); (repeat rw [if_neg h_1]); (repeat rw [if_pos h_2]); (repeat rw [if_neg h_3]); first | done | rfl)
        exact wr_iret hx hb hr hlocks dX5_child_41 hS (by rw [hE9]; exact f_s) (by rw [hE9]; first | done | rfl)
      · refine lv_bipush (v := (-4)) hx hb dX5_child_28 (by decide +kernel) ?_
        refine lv_goto (tgt := 41) hx hb dX5_child_30 (by decide) ?_
        have hE9 : s_child wd age = ((-4), wd) := (by (try unfold s_child); (repeat rw [if_neg h_1]); (repeat rw [if_pos h_2]); (repeat rw [if_pos h_3]); first | done | rfl)
        exact wr_iret hx hb hr hlocks dX5_child_41 hS (by rw [hE9]; exact f_s) (by rw [hE9]; first | done | rfl)
    · refine lv_bipush (v := (-2)) hx hb dX5_child_12 (by decide +kernel) ?_
      have hE9 : s_child wd age = ((-2), wd) := (by (try unfold s_child); (repeat rw [if_neg h_1]); (repeat rw [if_neg h_2]); first | done | rfl)
      exact wr_iret hx hb hr hlocks dX5_child_14 hS (by rw [hE9]; exact f_s) (by rw [hE9]; first | done | rfl)
theorem c2_X5_child (l : Launch) (G : GG) (AD ad td : Nat → Nat) (wd wt : WT) (tk : Bool) (rn : Int32) (bo : Nat → Int32) (age : Int32) (hN : cN AD ad td) (r9 : Int32) (wd9 : WT) (hy9 : s_child wd age = (r9, wd9)) : Met l yX5_child wsX5_child { frames := 2, cells := 0, slots := 0, locals := 46 } (roP G [.ref (AD 0), .int age] (fun H => CAt G AD ad td wd wt tk rn bo H)) (wrQ (some (.int r9)) (fun H => CAt G AD ad td wd9 wt tk rn bo H) (cA AD ad td)) 0 0 (cA AD ad td) := by
  have h9 := c_X5_child l G AD ad td wd wt tk rn bo age hN
  rw [hy9] at h9
  exact h9
theorem i_X5_grow_X5 : ∀ w ∈ wsX50, w ∈ wsX5_grow := fun _ h => List.mem_cons_of_mem _ (List.mem_append_left _ (List.mem_append_left _ (List.mem_append_right _ h)))
theorem k_X5_grow_fieldLink_14 : Cond.fieldLink RX5 14 "SameWater" "now" "LSameWater$World;" ∈ wsX5_grow := by decide +kernel
theorem i_X5_grow_X4 : ∀ w ∈ wsX40, w ∈ wsX5_grow := fun _ h => List.mem_cons_of_mem _ (List.mem_append_left _ (List.mem_append_right _ h))
theorem k_X5_grow_fieldLink_28 : Cond.fieldLink RX5 28 "SameWater$World" "children" "LSameWater$Rows;" ∈ wsX5_grow := by decide +kernel
theorem i_X5_grow_X2 : ∀ w ∈ wsX20, w ∈ wsX5_grow := fun _ h => List.mem_cons_of_mem _ (List.mem_append_right _ h)
theorem k_X5_grow_fieldLink_54 : Cond.fieldLink RX5 54 "SameWater$Rows" "size" "I" ∈ wsX5_grow := by decide +kernel
theorem kd_X4_growBy : yX4_growBy.cls = RX4 ∧ yX4_growBy.cls ≠ "java/lang/invoke/MethodHandle" ∧ yX4_growBy.cls ≠ "java/lang/invoke/VarHandle" ∧ (parseMethodDescriptor yX4_growBy.desc).map (fun d => d.parameters.length) = some 1 := by decide +kernel
def s_grow (wd : WT) (nn : Int32) : Int32 × WT := if nn < 1 then ((-2), wd) else if nn ≤ 60 then (nI (wCh (u_growBy wd nn)).1, (u_growBy wd nn)) else ((-2), wd)
set_option maxHeartbeats 4000000 in
set_option maxRecDepth 100000 in
theorem c_X5_grow (l : Launch) (G : GG) (AD ad td : Nat → Nat) (wd wt : WT) (tk : Bool) (rn : Int32) (bo : Nat → Int32) (nn : Int32) (hN : cN AD ad td) : Met l yX5_grow wsX5_grow { frames := 2, cells := 0, slots := 0, locals := 62 } (roP G [.ref (AD 0), .int nn] (fun H => CAt G AD ad td wd wt tk rn bo H)) (wrQ (some (.int ((s_grow wd nn).1))) (fun H => CAt G AD ad td ((s_grow wd nn).2) wt tk rn bo H) (cA AD ad td)) 0 0 (cA AD ad td) := by
  refine Met.ofW (cc := cX5_grow) (maxL := 2) (ret := (some .int)) (by decide) rfl ?_
  intro p e s m args below meth c s₁ Bd hml hv
  obtain ⟨rfl, hK, hB⟩ := hv
  have hx := Bd.exec
  have hb := Bd.bytes
  have hr := Bd.returns
  have hts := atoms_spec (ws := wsX5_grow) Bd.pre
  have hown : s.vm.findClass RX5 = some m.cls := findClass_of_methodNamed Bd.named
  have hlocks := Bd.notSynchronized
  have hC : CallFix p m c cX5_grow 2 s _ wsX5_grow RX5 := ⟨hx, hb, hml, hown, hts⟩
  have hl := lv_entry ([.ref (AD 0), .int nn]) (n := 2) (Nat.le_of_ble_eq_true rfl)
  rw [lg_entry_eq]
  generalize (lg_sl ([.ref (AD 0), .int nn]) ++ List.replicate (2 - (lg_sl ([.ref (AD 0), .int nn])).length) Slot.unset).toArray = ls at hl ⊢
  have hl : lv_has ls 2 [(0, .ref (AD 0)), (1, .int nn)] := hl
  have hS : wS (cA AD ad td) s.heap s.heap [] := wS.rf
  have f_s := hB
  have hZ := trivial
  refine lv_iload_n hx hb dX5_grow_0 rfl (lv_at hl 1 rfl) ?_
  refine lv_iconst (v := 1) hx hb dX5_grow_1 (by decide) ?_
  refine lv_icmp_lt (tgt := 11) hx hb dX5_grow_2 (by decide) (fun h_1 => ?_) (fun h_1 => ?_)
  · refine lv_bipush (v := (-2)) hx hb dX5_grow_11 (by decide +kernel) ?_
    have hE9 : s_grow wd nn = ((-2), wd) := (by (try unfold s_grow); (repeat rw [if_pos h_1]); first | done | rfl)
    exact wr_iret hx hb hr hlocks dX5_grow_13 hS (by rw [hE9]; exact f_s) (by rw [hE9]; first | done | rfl)
  · refine lv_iload_n hx hb dX5_grow_5 rfl (lv_at hl 1 rfl) ?_
    refine lv_bipush (v := 60) hx hb dX5_grow_6 (by decide +kernel) ?_
    refine lv_icmp_le (tgt := 14) hx hb dX5_grow_8 (by decide) (fun h_2 => ?_) (fun h_2 => ?_)
    · refine lv_aload_n hx hb dX5_grow_14 rfl (lv_at hl 0 rfl) ?_
      refine r_get (C := RX5) (T := TX5) (N := 4) hx hb hts i_X5_grow_X5 hown hK f_s.1 rfl 0 (by decide) k_X5_grow_fieldLink_14 rfl rfl dX5_grow_15 ?_
      refine lv_iload_n hx hb dX5_grow_18 rfl (lv_at hl 1 rfl) ?_
      refine wr_callv (va_runV (As := [.int nn]) (rest := []) hC (c_X4_growBy l G ad wd nn hN.1) (cwV 1 hts gX5_grow_X4_growBy rfl rfl rfl kd_X4_growBy ⟨Nat.le_of_ble_eq_true rfl, Nat.le_of_ble_eq_true rfl⟩) (ro_preV hK f_s.2.1.1 rfl f_s.2.1) rfl rfl hl.1 rfl (lv_room (Nat.le_of_ble_eq_true rfl)) dX5_grow_19 ⟨Nat.zero_le _, Nat.zero_le _⟩) hS (fun q h => (Or.inr (Or.inl h))) (fun H locs f_n hq hS => ?_)
      have f_s := (f_s.setNow hN f_n hq)
      refine lv_aload_n hx hb dX5_grow_22 rfl (lv_at hl 0 rfl) ?_
      refine r_get (C := RX5) (T := TX5) (N := 4) hx hb hts i_X5_grow_X5 hown hK f_s.1 rfl 0 (by decide) k_X5_grow_fieldLink_14 rfl rfl dX5_grow_23 ?_
      refine r_get (C := RX4) (T := TX4) (N := 6) hx hb hts i_X5_grow_X4 hown hK f_s.2.1.1 rfl 0 (by decide) k_X5_grow_fieldLink_28 rfl rfl dX5_grow_26 ?_
      refine r_get (C := RX2) (T := TX2) (N := 4) hx hb hts i_X5_grow_X2 hown hK f_s.2.1.2.1.1 rfl 3 (by decide) k_X5_grow_fieldLink_54 rfl rfl dX5_grow_29 ?_
      have hE9 : s_grow wd nn = (nI (wCh (u_growBy wd nn)).1, (u_growBy wd nn)) := (by (try unfold s_grow); (repeat rw [if_neg h_1]); (repeat rw [if_pos h_2]); first | done | rfl)
      exact wr_iret hx hb hr hlocks dX5_grow_32 hS (by rw [hE9]; exact f_s) (by rw [hE9]; first | done | rfl)
    · refine lv_bipush (v := (-2)) hx hb dX5_grow_11 (by decide +kernel) ?_
      have hE9 : s_grow wd nn = ((-2), wd) := (by (try unfold s_grow); (repeat rw [if_neg h_1]); (repeat rw [if_neg h_2]); first | done | rfl)
      exact wr_iret hx hb hr hlocks dX5_grow_13 hS (by rw [hE9]; exact f_s) (by rw [hE9]; first | done | rfl)
theorem c2_X5_grow (l : Launch) (G : GG) (AD ad td : Nat → Nat) (wd wt : WT) (tk : Bool) (rn : Int32) (bo : Nat → Int32) (nn : Int32) (hN : cN AD ad td) (r9 : Int32) (wd9 : WT) (hy9 : s_grow wd nn = (r9, wd9)) : Met l yX5_grow wsX5_grow { frames := 2, cells := 0, slots := 0, locals := 62 } (roP G [.ref (AD 0), .int nn] (fun H => CAt G AD ad td wd wt tk rn bo H)) (wrQ (some (.int r9)) (fun H => CAt G AD ad td wd9 wt tk rn bo H) (cA AD ad td)) 0 0 (cA AD ad td) := by
  have h9 := c_X5_grow l G AD ad td wd wt tk rn bo nn hN
  rw [hy9] at h9
  exact h9
theorem i_X5_asking_X5 : ∀ w ∈ wsX50, w ∈ wsX5_asking := fun _ h => List.mem_cons_of_mem _ (List.mem_append_left _ (List.mem_append_left _ (List.mem_append_right _ h)))
theorem k_X5_asking_fieldLink_14 : Cond.fieldLink RX5 14 "SameWater" "now" "LSameWater$World;" ∈ wsX5_asking := by decide +kernel
theorem i_X5_asking_X4 : ∀ w ∈ wsX40, w ∈ wsX5_asking := fun _ h => List.mem_cons_of_mem _ (List.mem_append_left _ (List.mem_append_right _ h))
theorem k_X5_asking_fieldLink_61 : Cond.fieldLink RX5 61 "SameWater$World" "askings" "LSameWater$Rows;" ∈ wsX5_asking := by decide +kernel
def s_asking (wd : WT) (stuff : Int32) (moved : Int32) (times : Int32) (eat : Bool) (word : Int32) (looks : Int32) (truly : Int32) : Int32 × WT := if (f_isStuff stuff) = true then if moved < 0 then ((-1), wd) else if moved ≤ 2 then if times < 1 then ((-2), wd) else if 2 < times then ((-2), wd) else if word < 0 then ((-2), wd) else if 3 < word then ((-2), wd) else if looks < (-9) then ((-2), wd) else if 9 < looks then ((-2), wd) else if truly < (-1) then ((-2), wd) else if truly ≤ 1 then if (f_isFull 16 (wAs wd)) = true then ((-4), wd) else (f_add 16 (wAs wd), (wSetAs wd (g_put 7 (g_put 7 (g_put 7 (g_put 7 (g_put 7 (g_put 7 (g_put 7 (g_add 16 (wAs wd)) (f_add 16 (wAs wd)) 0 stuff) (f_add 16 (wAs wd)) 1 moved) (f_add 16 (wAs wd)) 2 times) (f_add 16 (wAs wd)) 3 (b2i (if eat = true then true else false))) (f_add 16 (wAs wd)) 4 word) (f_add 16 (wAs wd)) 5 looks) (f_add 16 (wAs wd)) 6 truly))) else ((-2), wd) else ((-1), wd) else ((-1), wd)
set_option maxHeartbeats 4000000 in
set_option maxRecDepth 100000 in
theorem c_X5_asking (l : Launch) (G : GG) (AD ad td : Nat → Nat) (wd wt : WT) (tk : Bool) (rn : Int32) (bo : Nat → Int32) (stuff : Int32) (moved : Int32) (times : Int32) (eat : Bool) (word : Int32) (looks : Int32) (truly : Int32) (hN : cN AD ad td) : Met l yX5_asking wsX5_asking { frames := 1, cells := 0, slots := 0, locals := 23 } (roP G [.ref (AD 0), .int stuff, .int moved, .int times, .int (b2i eat), .int word, .int looks, .int truly] (fun H => CAt G AD ad td wd wt tk rn bo H)) (wrQ (some (.int ((s_asking wd stuff moved times eat word looks truly).1))) (fun H => CAt G AD ad td ((s_asking wd stuff moved times eat word looks truly).2) wt tk rn bo H) (cA AD ad td)) 0 0 (cA AD ad td) := by
  refine Met.ofW (cc := cX5_asking) (maxL := 9) (ret := (some .int)) (by decide) rfl ?_
  intro p e s m args below meth c s₁ Bd hml hv
  obtain ⟨rfl, hK, hB⟩ := hv
  have hx := Bd.exec
  have hb := Bd.bytes
  have hr := Bd.returns
  have hts := atoms_spec (ws := wsX5_asking) Bd.pre
  have hown : s.vm.findClass RX5 = some m.cls := findClass_of_methodNamed Bd.named
  have hlocks := Bd.notSynchronized
  have hC : CallFix p m c cX5_asking 9 s _ wsX5_asking RX5 := ⟨hx, hb, hml, hown, hts⟩
  have hl := lv_entry ([.ref (AD 0), .int stuff, .int moved, .int times, .int (b2i eat), .int word, .int looks, .int truly]) (n := 9) (Nat.le_of_ble_eq_true rfl)
  rw [lg_entry_eq]
  generalize (lg_sl ([.ref (AD 0), .int stuff, .int moved, .int times, .int (b2i eat), .int word, .int looks, .int truly]) ++ List.replicate (9 - (lg_sl ([.ref (AD 0), .int stuff, .int moved, .int times, .int (b2i eat), .int word, .int looks, .int truly])).length) Slot.unset).toArray = ls at hl ⊢
  have hl : lv_has ls 9 [(0, .ref (AD 0)), (1, .int stuff), (2, .int moved), (3, .int times), (4, .int (b2i eat)), (5, .int word), (6, .int looks), (7, .int truly)] := hl
  have hS : wS (cA AD ad td) s.heap s.heap [] := wS.rf
  have f_s := hB
  have hZ := trivial
  refine lv_iload_n hx hb dX5_asking_0 rfl (lv_at hl 1 rfl) ?_
  refine ro_call (va_runS (As := [.int stuff]) (rest := []) hC (c_X5_isStuff l G stuff) (va_cwS 1 hts gX5_asking_X5_isStuff rfl rfl rfl kd_X5_isStuff ⟨Nat.le_of_ble_eq_true rfl, Nat.le_of_ble_eq_true rfl⟩) (ro_preS hK trivial) rfl rfl hl.1 rfl (lv_room (Nat.le_of_ble_eq_true rfl)) dX5_asking_1 ⟨Nat.zero_le _, Nat.zero_le _⟩) ?_
  refine bz_eq (tgt := 16) hx hb dX5_asking_4 (by decide) (fun h_1 => ?_) (fun h_1 => ?_)
  · refine lv_iconst (v := (-1)) hx hb dX5_asking_16 (by decide) ?_
    have hE9 : s_asking wd stuff moved times eat word looks truly = ((-1), wd) := (by (try unfold s_asking); (repeat rw [if_neg h_1]); first | done | rfl)
    exact wr_iret hx hb hr hlocks dX5_asking_17 hS (by rw [hE9]; exact f_s) (by rw [hE9]; first | done | rfl)
  · refine lv_iload_n hx hb dX5_asking_7 rfl (lv_at hl 2 rfl) ?_
    refine lv_if_lt (tgt := 16) hx hb dX5_asking_8 (by decide) (fun h_2 => ?_) (fun h_2 => ?_)
    · refine lv_iconst (v := (-1)) hx hb dX5_asking_16 (by decide) ?_
      have hE9 : s_asking wd stuff moved times eat word looks truly = ((-1), wd) := (by (try unfold s_asking); (repeat rw [if_pos h_1]); (repeat rw [if_pos h_2]); first | done | rfl)
      exact wr_iret hx hb hr hlocks dX5_asking_17 hS (by rw [hE9]; exact f_s) (by rw [hE9]; first | done | rfl)
    · refine lv_iload_n hx hb dX5_asking_11 rfl (lv_at hl 2 rfl) ?_
      refine lv_iconst (v := 2) hx hb dX5_asking_12 (by decide) ?_
      refine lv_icmp_le (tgt := 18) hx hb dX5_asking_13 (by decide) (fun h_3 => ?_) (fun h_3 => ?_)
      · refine lv_iload_n hx hb dX5_asking_18 rfl (lv_at hl 3 rfl) ?_
        refine lv_iconst (v := 1) hx hb dX5_asking_19 (by decide) ?_
        refine lv_icmp_lt (tgt := 65) hx hb dX5_asking_20 (by decide) (fun h_4 => ?_) (fun h_4 => ?_)
        · refine lv_bipush (v := (-2)) hx hb dX5_asking_65 (by decide +kernel) ?_
          have hE9 : s_asking wd stuff moved times eat word looks truly = ((-2), wd) := (by (try unfold s_asking); (repeat rw [if_pos h_1]); (repeat rw [if_neg h_2]); (repeat rw [if_pos h_3]); (repeat rw [if_pos h_4]); first | done | rfl)
          exact wr_iret hx hb hr hlocks dX5_asking_67 hS (by rw [hE9]; exact f_s) (by rw [hE9]; first | done | rfl)
        · refine lv_iload_n hx hb dX5_asking_23 rfl (lv_at hl 3 rfl) ?_
          refine lv_iconst (v := 2) hx hb dX5_asking_24 (by decide) ?_
          refine lv_icmp_gt (tgt := 65) hx hb dX5_asking_25 (by decide) (fun h_5 => ?_) (fun h_5 => ?_)
          · refine lv_bipush (v := (-2)) hx hb dX5_asking_65 (by decide +kernel) ?_
            have hE9 : s_asking wd stuff moved times eat word looks truly = ((-2), wd) := (by (try unfold s_asking); (repeat rw [if_pos h_1]); (repeat rw [if_neg h_2]); (repeat rw [if_pos h_3]); (repeat rw [if_neg h_4]); (repeat rw [if_pos h_5]); first | done | rfl)
            exact wr_iret hx hb hr hlocks dX5_asking_67 hS (by rw [hE9]; exact f_s) (by rw [hE9]; first | done | rfl)
          · refine lv_iload hx hb dX5_asking_28 (lv_at hl 5 rfl) ?_
            refine lv_if_lt (tgt := 65) hx hb dX5_asking_30 (by decide) (fun h_6 => ?_) (fun h_6 => ?_)
            · refine lv_bipush (v := (-2)) hx hb dX5_asking_65 (by decide +kernel) ?_
              have hE9 : s_asking wd stuff moved times eat word looks truly = ((-2), wd) := (by (try unfold s_asking); (repeat rw [if_pos h_1]); (repeat rw [if_neg h_2]); (repeat rw [if_pos h_3]); (repeat rw [if_neg h_4]); (repeat rw [if_neg h_5]); (repeat rw [if_pos h_6]); first | done | rfl)
              exact wr_iret hx hb hr hlocks dX5_asking_67 hS (by rw [hE9]; exact f_s) (by rw [hE9]; first | done | rfl)
            · refine lv_iload hx hb dX5_asking_33 (lv_at hl 5 rfl) ?_
              refine lv_iconst (v := 3) hx hb dX5_asking_35 (by decide) ?_
              refine lv_icmp_gt (tgt := 65) hx hb dX5_asking_36 (by decide) (fun h_7 => ?_) (fun h_7 => ?_)
              · refine lv_bipush (v := (-2)) hx hb dX5_asking_65 (by decide +kernel) ?_
                have hE9 : s_asking wd stuff moved times eat word looks truly = ((-2), wd) := (by (try unfold s_asking); (repeat rw [if_pos h_1]); (repeat rw [if_neg h_2]); (repeat rw [if_pos h_3]); (repeat rw [if_neg h_4]); (repeat rw [if_neg h_5]); (repeat rw [if_neg h_6]); (repeat rw [if_pos h_7]); first | done | rfl)
                exact wr_iret hx hb hr hlocks dX5_asking_67 hS (by rw [hE9]; exact f_s) (by rw [hE9]; first | done | rfl)
              · refine lv_iload hx hb dX5_asking_39 (lv_at hl 6 rfl) ?_
                refine lv_bipush (v := (-9)) hx hb dX5_asking_41 (by decide +kernel) ?_
                refine lv_icmp_lt (tgt := 65) hx hb dX5_asking_43 (by decide) (fun h_8 => ?_) (fun h_8 => ?_)
                · refine lv_bipush (v := (-2)) hx hb dX5_asking_65 (by decide +kernel) ?_
                  have hE9 : s_asking wd stuff moved times eat word looks truly = ((-2), wd) := (by (try unfold s_asking); (repeat rw [if_pos h_1]); (repeat rw [if_neg h_2]); (repeat rw [if_pos h_3]); (repeat rw [if_neg h_4]); (repeat rw [if_neg h_5]); (repeat rw [if_neg h_6]); (repeat rw [if_neg h_7]); (repeat rw [if_pos h_8]); first | done | rfl)
                  exact wr_iret hx hb hr hlocks dX5_asking_67 hS (by rw [hE9]; exact f_s) (by rw [hE9]; first | done | rfl)
                · refine lv_iload hx hb dX5_asking_46 (lv_at hl 6 rfl) ?_
                  refine lv_bipush (v := 9) hx hb dX5_asking_48 (by decide +kernel) ?_
                  refine lv_icmp_gt (tgt := 65) hx hb dX5_asking_50 (by decide) (fun h_9 => ?_) (fun h_9 => ?_)
                  · refine lv_bipush (v := (-2)) hx hb dX5_asking_65 (by decide +kernel) ?_
                    have hE9 : s_asking wd stuff moved times eat word looks truly = ((-2), wd) := (by (try unfold s_asking); (repeat rw [if_pos h_1]); (repeat rw [if_neg h_2]); (repeat rw [if_pos h_3]); (repeat rw [if_neg h_4]); (repeat rw [if_neg h_5]); (repeat rw [if_neg h_6]); (repeat rw [if_neg h_7]); (repeat rw [if_neg h_8]); (repeat rw [if_pos h_9]); first | done | rfl)
                    exact wr_iret hx hb hr hlocks dX5_asking_67 hS (by rw [hE9]; exact f_s) (by rw [hE9]; first | done | rfl)
                  · refine lv_iload hx hb dX5_asking_53 (lv_at hl 7 rfl) ?_
                    refine lv_iconst (v := (-1)) hx hb dX5_asking_55 (by decide) ?_
                    refine lv_icmp_lt (tgt := 65) hx hb dX5_asking_56 (by decide) (fun h_10 => ?_) (fun h_10 => ?_)
                    · refine lv_bipush (v := (-2)) hx hb dX5_asking_65 (by decide +kernel) ?_
                      have hE9 : s_asking wd stuff moved times eat word looks truly = ((-2), wd) := (by (try unfold s_asking); (repeat rw [if_pos h_1]); (repeat rw [if_neg h_2]); (repeat rw [if_pos h_3]); (repeat rw [if_neg h_4]); (repeat rw [if_neg h_5]); (repeat rw [if_neg h_6]); (repeat rw [if_neg h_7]); (repeat rw [if_neg h_8]); (repeat rw [if_neg h_9]); (repeat rw [if_pos h_10]); first | done | rfl)
                      exact wr_iret hx hb hr hlocks dX5_asking_67 hS (by rw [hE9]; exact f_s) (by rw [hE9]; first | done | rfl)
                    · refine lv_iload hx hb dX5_asking_59 (lv_at hl 7 rfl) ?_
                      refine lv_iconst (v := 1) hx hb dX5_asking_61 (by decide) ?_
                      refine lv_icmp_le (tgt := 68) hx hb dX5_asking_62 (by decide) (fun h_11 => ?_) (fun h_11 => ?_)
                      · refine lv_aload_n hx hb dX5_asking_68 rfl (lv_at hl 0 rfl) ?_
                        refine r_get (C := RX5) (T := TX5) (N := 4) hx hb hts i_X5_asking_X5 hown hK f_s.1 rfl 0 (by decide) k_X5_asking_fieldLink_14 rfl rfl dX5_asking_69 ?_
                        refine r_get (C := RX4) (T := TX4) (N := 6) hx hb hts i_X5_asking_X4 hown hK f_s.2.1.1 rfl 1 (by decide) k_X5_asking_fieldLink_61 rfl rfl dX5_asking_72 ?_
                        refine ro_call (va_runV (As := []) (rest := []) hC (c_X2_isFull l G (ad 3) (ad 4) 16 7 (wAs wd)) (cwV 0 hts gX5_asking_X2_isFull rfl rfl rfl kd_X2_isFull ⟨Nat.le_of_ble_eq_true rfl, Nat.le_of_ble_eq_true rfl⟩) (ro_preV hK f_s.2.1.2.2.1.1 rfl f_s.2.1.2.2.1) rfl rfl hl.1 rfl (lv_room (Nat.le_of_ble_eq_true rfl)) dX5_asking_75 ⟨Nat.zero_le _, Nat.zero_le _⟩) ?_
                        refine bz_eq (tgt := 84) hx hb dX5_asking_78 (by decide) (fun h_12 => ?_) (fun h_12 => ?_)
                        · refine lv_aload_n hx hb dX5_asking_84 rfl (lv_at hl 0 rfl) ?_
                          refine r_get (C := RX5) (T := TX5) (N := 4) hx hb hts i_X5_asking_X5 hown hK f_s.1 rfl 0 (by decide) k_X5_asking_fieldLink_14 rfl rfl dX5_asking_85 ?_
                          refine r_get (C := RX4) (T := TX4) (N := 6) hx hb hts i_X5_asking_X4 hown hK f_s.2.1.1 rfl 1 (by decide) k_X5_asking_fieldLink_61 rfl rfl dX5_asking_88 ?_
                          refine wr_call (va_runV (As := []) (rest := []) hC (c_X2_add l G (ad 3) (ad 4) 16 7 (wAs wd) (hN.1 3 4 (by decide) (by decide) (by decide))) (cwV 0 hts gX5_asking_X2_add rfl rfl rfl kd_X2_add ⟨Nat.le_of_ble_eq_true rfl, Nat.le_of_ble_eq_true rfl⟩) (ro_preV hK f_s.2.1.2.2.1.1 rfl f_s.2.1.2.2.1) rfl rfl hl.1 rfl (lv_room (Nat.le_of_ble_eq_true rfl)) dX5_asking_91 ⟨Nat.zero_le _, Nat.zero_le _⟩) hS (fun q h => (Or.inr (Or.inl (h ▸ wA.in ad 3 (by decide))))) (fun H locs f_n hq hS => ?_)
                          have f_s := (CAt.setNow f_s hN (f_s.2.1.setAs hN.1 f_n (fun q h => hq q (fun e => h (Or.inl e)))) (fun q h => hq q (fun e => h (e ▸ wA.in ad 3 (by decide)))))
                          refine lv_istore (lv' := [(8, .int (f_add 16 (wAs wd))), (0, .ref (AD 0)), (1, .int stuff), (2, .int moved), (3, .int times), (4, .int (b2i eat)), (5, .int word), (6, .int looks), (7, .int truly)]) hx hb dX5_asking_94 hl (by decide) rfl (fun ls hl => ?_)
                          refine lv_aload_n hx hb dX5_asking_96 rfl (lv_at hl 1 rfl) ?_
                          refine r_get (C := RX5) (T := TX5) (N := 4) hx hb hts i_X5_asking_X5 hown hK f_s.1 rfl 0 (by decide) k_X5_asking_fieldLink_14 rfl rfl dX5_asking_97 ?_
                          refine r_get (C := RX4) (T := TX4) (N := 6) hx hb hts i_X5_asking_X4 hown hK f_s.2.1.1 rfl 1 (by decide) k_X5_asking_fieldLink_61 rfl rfl dX5_asking_100 ?_
                          refine lv_iload hx hb dX5_asking_103 (lv_at hl 0 rfl) ?_
                          refine lv_iconst (v := 0) hx hb dX5_asking_105 (by decide) ?_
                          refine lv_iload_n hx hb dX5_asking_106 rfl (lv_at hl 2 rfl) ?_
                          refine wr_callv (va_runV (As := [.int (f_add 16 (wAs wd)), .int 0, .int stuff]) (rest := []) hC (c_X2_put l G (ad 3) (ad 4) 16 7 (g_add 16 (wAs wd)) (f_add 16 (wAs wd)) 0 stuff (hN.1 3 4 (by decide) (by decide) (by decide))) (cwV 3 hts gX5_asking_X2_put rfl rfl rfl kd_X2_put ⟨Nat.le_of_ble_eq_true rfl, Nat.le_of_ble_eq_true rfl⟩) (ro_preV hK f_s.2.1.2.2.1.1 rfl f_s.2.1.2.2.1) rfl rfl hl.1 rfl (lv_room (Nat.le_of_ble_eq_true rfl)) dX5_asking_107 ⟨Nat.zero_le _, Nat.zero_le _⟩) hS (fun q h => (Or.inr (Or.inl (h ▸ wA.in ad 4 (by decide))))) (fun H locs f_n hq hS => ?_)
                          have f_s := (CAt.setNow f_s hN (f_s.2.1.setAs hN.1 f_n (fun q h => hq q (fun e => h (Or.inr e)))) (fun q h => hq q (fun e => h (e ▸ wA.in ad 4 (by decide)))))
                          refine lv_aload_n hx hb dX5_asking_110 rfl (lv_at hl 1 rfl) ?_
                          refine r_get (C := RX5) (T := TX5) (N := 4) hx hb hts i_X5_asking_X5 hown hK f_s.1 rfl 0 (by decide) k_X5_asking_fieldLink_14 rfl rfl dX5_asking_111 ?_
                          refine r_get (C := RX4) (T := TX4) (N := 6) hx hb hts i_X5_asking_X4 hown hK f_s.2.1.1 rfl 1 (by decide) k_X5_asking_fieldLink_61 rfl rfl dX5_asking_114 ?_
                          refine lv_iload hx hb dX5_asking_117 (lv_at hl 0 rfl) ?_
                          refine lv_iconst (v := 1) hx hb dX5_asking_119 (by decide) ?_
                          refine lv_iload_n hx hb dX5_asking_120 rfl (lv_at hl 3 rfl) ?_
                          refine wr_callv (va_runV (As := [.int (f_add 16 (wAs wd)), .int 1, .int moved]) (rest := []) hC (c_X2_put l G (ad 3) (ad 4) 16 7 (g_put 7 (g_add 16 (wAs wd)) (f_add 16 (wAs wd)) 0 stuff) (f_add 16 (wAs wd)) 1 moved (hN.1 3 4 (by decide) (by decide) (by decide))) (cwV 3 hts gX5_asking_X2_put rfl rfl rfl kd_X2_put ⟨Nat.le_of_ble_eq_true rfl, Nat.le_of_ble_eq_true rfl⟩) (ro_preV hK f_s.2.1.2.2.1.1 rfl f_s.2.1.2.2.1) rfl rfl hl.1 rfl (lv_room (Nat.le_of_ble_eq_true rfl)) dX5_asking_121 ⟨Nat.zero_le _, Nat.zero_le _⟩) hS (fun q h => (Or.inr (Or.inl (h ▸ wA.in ad 4 (by decide))))) (fun H locs f_n hq hS => ?_)
                          have f_s := (CAt.setNow f_s hN (f_s.2.1.setAs hN.1 f_n (fun q h => hq q (fun e => h (Or.inr e)))) (fun q h => hq q (fun e => h (e ▸ wA.in ad 4 (by decide)))))
                          refine lv_aload_n hx hb dX5_asking_124 rfl (lv_at hl 1 rfl) ?_
                          refine r_get (C := RX5) (T := TX5) (N := 4) hx hb hts i_X5_asking_X5 hown hK f_s.1 rfl 0 (by decide) k_X5_asking_fieldLink_14 rfl rfl dX5_asking_125 ?_
                          refine r_get (C := RX4) (T := TX4) (N := 6) hx hb hts i_X5_asking_X4 hown hK f_s.2.1.1 rfl 1 (by decide) k_X5_asking_fieldLink_61 rfl rfl dX5_asking_128 ?_
                          refine lv_iload hx hb dX5_asking_131 (lv_at hl 0 rfl) ?_
                          refine lv_iconst (v := 2) hx hb dX5_asking_133 (by decide) ?_
                          refine lv_iload_n hx hb dX5_asking_134 rfl (lv_at hl 4 rfl) ?_
                          refine wr_callv (va_runV (As := [.int (f_add 16 (wAs wd)), .int 2, .int times]) (rest := []) hC (c_X2_put l G (ad 3) (ad 4) 16 7 (g_put 7 (g_put 7 (g_add 16 (wAs wd)) (f_add 16 (wAs wd)) 0 stuff) (f_add 16 (wAs wd)) 1 moved) (f_add 16 (wAs wd)) 2 times (hN.1 3 4 (by decide) (by decide) (by decide))) (cwV 3 hts gX5_asking_X2_put rfl rfl rfl kd_X2_put ⟨Nat.le_of_ble_eq_true rfl, Nat.le_of_ble_eq_true rfl⟩) (ro_preV hK f_s.2.1.2.2.1.1 rfl f_s.2.1.2.2.1) rfl rfl hl.1 rfl (lv_room (Nat.le_of_ble_eq_true rfl)) dX5_asking_135 ⟨Nat.zero_le _, Nat.zero_le _⟩) hS (fun q h => (Or.inr (Or.inl (h ▸ wA.in ad 4 (by decide))))) (fun H locs f_n hq hS => ?_)
                          have f_s := (CAt.setNow f_s hN (f_s.2.1.setAs hN.1 f_n (fun q h => hq q (fun e => h (Or.inr e)))) (fun q h => hq q (fun e => h (e ▸ wA.in ad 4 (by decide)))))
                          refine lv_aload_n hx hb dX5_asking_138 rfl (lv_at hl 1 rfl) ?_
                          refine r_get (C := RX5) (T := TX5) (N := 4) hx hb hts i_X5_asking_X5 hown hK f_s.1 rfl 0 (by decide) k_X5_asking_fieldLink_14 rfl rfl dX5_asking_139 ?_
                          refine r_get (C := RX4) (T := TX4) (N := 6) hx hb hts i_X5_asking_X4 hown hK f_s.2.1.1 rfl 1 (by decide) k_X5_asking_fieldLink_61 rfl rfl dX5_asking_142 ?_
                          refine lv_iload hx hb dX5_asking_145 (lv_at hl 0 rfl) ?_
                          refine lv_iconst (v := 3) hx hb dX5_asking_147 (by decide) ?_
                          refine lv_iload hx hb dX5_asking_148 (lv_at hl 5 rfl) ?_
                          refine join_wr (nL := 9) 158 [(8, .int (f_add 16 (wAs wd))), (0, .ref (AD 0)), (1, .int stuff), (2, .int moved), (3, .int times), (4, .int (b2i eat)), (5, .int word), (6, .int looks), (7, .int truly)] [.int (b2i (if eat = true then true else false)), .int 3, .int (f_add 16 (wAs wd)), .ref (ad 3)] (fun H locs => (CAt G AD ad td (wSetAs wd (g_put 7 (g_put 7 (g_put 7 (g_add 16 (wAs wd)) (f_add 16 (wAs wd)) 0 stuff) (f_add 16 (wAs wd)) 1 moved) (f_add 16 (wAs wd)) 2 times)) wt tk rn bo H) ∧ wS (cA AD ad td) s.heap H locs ∧ True) (fun H locs hI ls hl => ?_) (fun J_13 => ?_)
                          · obtain ⟨f_s, hS, hZ⟩ := hI
                            refine wr_callv (va_runV (As := [.int (f_add 16 (wAs wd)), .int 3, .int (b2i (if eat = true then true else false))]) (rest := []) hC (c_X2_put l G (ad 3) (ad 4) 16 7 (g_put 7 (g_put 7 (g_put 7 (g_add 16 (wAs wd)) (f_add 16 (wAs wd)) 0 stuff) (f_add 16 (wAs wd)) 1 moved) (f_add 16 (wAs wd)) 2 times) (f_add 16 (wAs wd)) 3 (b2i (if eat = true then true else false)) (hN.1 3 4 (by decide) (by decide) (by decide))) (cwV 3 hts gX5_asking_X2_put rfl rfl rfl kd_X2_put ⟨Nat.le_of_ble_eq_true rfl, Nat.le_of_ble_eq_true rfl⟩) (ro_preV hK f_s.2.1.2.2.1.1 rfl f_s.2.1.2.2.1) rfl rfl hl.1 rfl (lv_room (Nat.le_of_ble_eq_true rfl)) dX5_asking_158 ⟨Nat.zero_le _, Nat.zero_le _⟩) hS (fun q h => (Or.inr (Or.inl (h ▸ wA.in ad 4 (by decide))))) (fun H locs f_n hq hS => ?_)
                            have f_s := (CAt.setNow f_s hN (f_s.2.1.setAs hN.1 f_n (fun q h => hq q (fun e => h (Or.inr e)))) (fun q h => hq q (fun e => h (e ▸ wA.in ad 4 (by decide)))))
                            refine lv_aload_n hx hb dX5_asking_161 rfl (lv_at hl 1 rfl) ?_
                            refine r_get (C := RX5) (T := TX5) (N := 4) hx hb hts i_X5_asking_X5 hown hK f_s.1 rfl 0 (by decide) k_X5_asking_fieldLink_14 rfl rfl dX5_asking_162 ?_
                            refine r_get (C := RX4) (T := TX4) (N := 6) hx hb hts i_X5_asking_X4 hown hK f_s.2.1.1 rfl 1 (by decide) k_X5_asking_fieldLink_61 rfl rfl dX5_asking_165 ?_
                            refine lv_iload hx hb dX5_asking_168 (lv_at hl 0 rfl) ?_
                            refine lv_iconst (v := 4) hx hb dX5_asking_170 (by decide) ?_
                            refine lv_iload hx hb dX5_asking_171 (lv_at hl 6 rfl) ?_
                            refine wr_callv (va_runV (As := [.int (f_add 16 (wAs wd)), .int 4, .int word]) (rest := []) hC (c_X2_put l G (ad 3) (ad 4) 16 7 (g_put 7 (g_put 7 (g_put 7 (g_put 7 (g_add 16 (wAs wd)) (f_add 16 (wAs wd)) 0 stuff) (f_add 16 (wAs wd)) 1 moved) (f_add 16 (wAs wd)) 2 times) (f_add 16 (wAs wd)) 3 (b2i (if eat = true then true else false))) (f_add 16 (wAs wd)) 4 word (hN.1 3 4 (by decide) (by decide) (by decide))) (cwV 3 hts gX5_asking_X2_put rfl rfl rfl kd_X2_put ⟨Nat.le_of_ble_eq_true rfl, Nat.le_of_ble_eq_true rfl⟩) (ro_preV hK f_s.2.1.2.2.1.1 rfl f_s.2.1.2.2.1) rfl rfl hl.1 rfl (lv_room (Nat.le_of_ble_eq_true rfl)) dX5_asking_173 ⟨Nat.zero_le _, Nat.zero_le _⟩) hS (fun q h => (Or.inr (Or.inl (h ▸ wA.in ad 4 (by decide))))) (fun H locs f_n hq hS => ?_)
                            have f_s := (CAt.setNow f_s hN (f_s.2.1.setAs hN.1 f_n (fun q h => hq q (fun e => h (Or.inr e)))) (fun q h => hq q (fun e => h (e ▸ wA.in ad 4 (by decide)))))
                            refine lv_aload_n hx hb dX5_asking_176 rfl (lv_at hl 1 rfl) ?_
                            refine r_get (C := RX5) (T := TX5) (N := 4) hx hb hts i_X5_asking_X5 hown hK f_s.1 rfl 0 (by decide) k_X5_asking_fieldLink_14 rfl rfl dX5_asking_177 ?_
                            refine r_get (C := RX4) (T := TX4) (N := 6) hx hb hts i_X5_asking_X4 hown hK f_s.2.1.1 rfl 1 (by decide) k_X5_asking_fieldLink_61 rfl rfl dX5_asking_180 ?_
                            refine lv_iload hx hb dX5_asking_183 (lv_at hl 0 rfl) ?_
                            refine lv_iconst (v := 5) hx hb dX5_asking_185 (by decide) ?_
                            refine lv_iload hx hb dX5_asking_186 (lv_at hl 7 rfl) ?_
                            refine wr_callv (va_runV (As := [.int (f_add 16 (wAs wd)), .int 5, .int looks]) (rest := []) hC (c_X2_put l G (ad 3) (ad 4) 16 7 (g_put 7 (g_put 7 (g_put 7 (g_put 7 (g_put 7 (g_add 16 (wAs wd)) (f_add 16 (wAs wd)) 0 stuff) (f_add 16 (wAs wd)) 1 moved) (f_add 16 (wAs wd)) 2 times) (f_add 16 (wAs wd)) 3 (b2i (if eat = true then true else false))) (f_add 16 (wAs wd)) 4 word) (f_add 16 (wAs wd)) 5 looks (hN.1 3 4 (by decide) (by decide) (by decide))) (cwV 3 hts gX5_asking_X2_put rfl rfl rfl kd_X2_put ⟨Nat.le_of_ble_eq_true rfl, Nat.le_of_ble_eq_true rfl⟩) (ro_preV hK f_s.2.1.2.2.1.1 rfl f_s.2.1.2.2.1) rfl rfl hl.1 rfl (lv_room (Nat.le_of_ble_eq_true rfl)) dX5_asking_188 ⟨Nat.zero_le _, Nat.zero_le _⟩) hS (fun q h => (Or.inr (Or.inl (h ▸ wA.in ad 4 (by decide))))) (fun H locs f_n hq hS => ?_)
                            have f_s := (CAt.setNow f_s hN (f_s.2.1.setAs hN.1 f_n (fun q h => hq q (fun e => h (Or.inr e)))) (fun q h => hq q (fun e => h (e ▸ wA.in ad 4 (by decide)))))
                            refine lv_aload_n hx hb dX5_asking_191 rfl (lv_at hl 1 rfl) ?_
                            refine r_get (C := RX5) (T := TX5) (N := 4) hx hb hts i_X5_asking_X5 hown hK f_s.1 rfl 0 (by decide) k_X5_asking_fieldLink_14 rfl rfl dX5_asking_192 ?_
                            refine r_get (C := RX4) (T := TX4) (N := 6) hx hb hts i_X5_asking_X4 hown hK f_s.2.1.1 rfl 1 (by decide) k_X5_asking_fieldLink_61 rfl rfl dX5_asking_195 ?_
                            refine lv_iload hx hb dX5_asking_198 (lv_at hl 0 rfl) ?_
                            refine lv_bipush (v := 6) hx hb dX5_asking_200 (by decide +kernel) ?_
                            refine lv_iload hx hb dX5_asking_202 (lv_at hl 8 rfl) ?_
                            refine wr_callv (va_runV (As := [.int (f_add 16 (wAs wd)), .int 6, .int truly]) (rest := []) hC (c_X2_put l G (ad 3) (ad 4) 16 7 (g_put 7 (g_put 7 (g_put 7 (g_put 7 (g_put 7 (g_put 7 (g_add 16 (wAs wd)) (f_add 16 (wAs wd)) 0 stuff) (f_add 16 (wAs wd)) 1 moved) (f_add 16 (wAs wd)) 2 times) (f_add 16 (wAs wd)) 3 (b2i (if eat = true then true else false))) (f_add 16 (wAs wd)) 4 word) (f_add 16 (wAs wd)) 5 looks) (f_add 16 (wAs wd)) 6 truly (hN.1 3 4 (by decide) (by decide) (by decide))) (cwV 3 hts gX5_asking_X2_put rfl rfl rfl kd_X2_put ⟨Nat.le_of_ble_eq_true rfl, Nat.le_of_ble_eq_true rfl⟩) (ro_preV hK f_s.2.1.2.2.1.1 rfl f_s.2.1.2.2.1) rfl rfl hl.1 rfl (lv_room (Nat.le_of_ble_eq_true rfl)) dX5_asking_204 ⟨Nat.zero_le _, Nat.zero_le _⟩) hS (fun q h => (Or.inr (Or.inl (h ▸ wA.in ad 4 (by decide))))) (fun H locs f_n hq hS => ?_)
                            have f_s := (CAt.setNow f_s hN (f_s.2.1.setAs hN.1 f_n (fun q h => hq q (fun e => h (Or.inr e)))) (fun q h => hq q (fun e => h (e ▸ wA.in ad 4 (by decide)))))
                            refine lv_iload hx hb dX5_asking_207 (lv_at hl 0 rfl) ?_
                            have hE9 : s_asking wd stuff moved times eat word looks truly = (f_add 16 (wAs wd), (wSetAs wd (g_put 7 (g_put 7 (g_put 7 (g_put 7 (g_put 7 (g_put 7 (g_put 7 (g_add 16 (wAs wd)) (f_add 16 (wAs wd)) 0 stuff) (f_add 16 (wAs wd)) 1 moved) (f_add 16 (wAs wd)) 2 times) (f_add 16 (wAs wd)) 3 (b2i (if eat = true then true else false))) (f_add 16 (wAs wd)) 4 word) (f_add 16 (wAs wd)) 5 looks) (f_add 16 (wAs wd)) 6 truly))) := (by (try unfold s_asking); (repeat rw [if_pos h_1]); (repeat rw [if_neg h_2]); (repeat rw [if_pos h_3]); (repeat rw [if_neg h_4]); (repeat rw [if_neg h_5]); (repeat rw [if_neg h_6]); (repeat rw [if_neg h_7]); (repeat rw [if_neg h_8]); (repeat rw [if_neg h_9]); (repeat rw [if_neg h_10]); (repeat rw [if_pos h_11]); (repeat rw [if_neg h_12]); first | done | rfl)
                            exact wr_iret hx hb hr hlocks dX5_asking_209 hS (by rw [hE9]; exact f_s) (by rw [hE9]; first | done | rfl)
                          · refine bz_eq (tgt := 157) hx hb dX5_asking_150 (by decide) (fun h_14 => ?_) (fun h_14 => ?_)
                            · refine lv_iconst (v := 0) hx hb dX5_asking_157 (by decide) ?_
                              have hJ := J_13; (repeat rw [if_neg h_14] at hJ)
                              first | exact hJ _ _ ⟨f_s, hS, hZ⟩ ls (lv_sub hl [0, 1, 2, 3, 4, 5, 6, 7, 8] rfl) | ((repeat rw [if_neg h_14] at hl); (repeat rw [if_neg h_14]); exact hJ _ _ ⟨f_s, hS, hZ⟩ ls (lv_sub hl [0, 1, 2, 3, 4, 5, 6, 7, 8] rfl))
                            · refine lv_iconst (v := 1) hx hb dX5_asking_153 (by decide) ?_
                              refine lv_goto (tgt := 158) hx hb dX5_asking_154 (by decide) ?_
                              have hJ := J_13; (repeat rw [if_pos h_14] at hJ)
                              first | exact hJ _ _ ⟨f_s, hS, hZ⟩ ls (lv_sub hl [0, 1, 2, 3, 4, 5, 6, 7, 8] rfl) | ((repeat rw [if_pos h_14] at hl); (repeat rw [if_pos h_14]); exact hJ _ _ ⟨f_s, hS, hZ⟩ ls (lv_sub hl [0, 1, 2, 3, 4, 5, 6, 7, 8] rfl))
                        · refine lv_bipush (v := (-4)) hx hb dX5_asking_81 (by decide +kernel) ?_
                          have hE9 : s_asking wd stuff moved times eat word looks truly = ((-4), wd) := (by (try unfold s_asking); (repeat rw [if_pos h_1]); (repeat rw [if_neg h_2]); (repeat rw [if_pos h_3]); (repeat rw [if_neg h_4]); (repeat rw [if_neg h_5]); (repeat rw [if_neg h_6]); (repeat rw [if_neg h_7]); (repeat rw [if_neg h_8]); (repeat rw [if_neg h_9]); (repeat rw [if_neg h_10]); (repeat rw [if_pos h_11]); (repeat rw [if_pos h_12]); first | done | rfl)
                          exact wr_iret hx hb hr hlocks dX5_asking_83 hS (by rw [hE9]; exact f_s) (by rw [hE9]; first | done | rfl)
                      · refine lv_bipush (v := (-2)) hx hb dX5_asking_65 (by decide +kernel) ?_
                        have hE9 : s_asking wd stuff moved times eat word looks truly = ((-2), wd) := (by (try unfold s_asking); (repeat rw [if_pos h_1]); (repeat rw [if_neg h_2]); (repeat rw [if_pos h_3]); (repeat rw [if_neg h_4]); (repeat rw [if_neg h_5]); (repeat rw [if_neg h_6]); (repeat rw [if_neg h_7]); (repeat rw [if_neg h_8]); (repeat rw [if_neg h_9]); (repeat rw [if_neg h_10]); (repeat rw [if_neg h_11]); first | done | rfl)
                        exact wr_iret hx hb hr hlocks dX5_asking_67 hS (by rw [hE9]; exact f_s) (by rw [hE9]; first | done | rfl)
      · refine lv_iconst (v := (-1)) hx hb dX5_asking_16 (by decide) ?_
        have hE9 : s_asking wd stuff moved times eat word looks truly = ((-1), wd) := (by (try unfold s_asking); (repeat rw [if_pos h_1]); (repeat rw [if_neg h_2]); (repeat rw [if_neg h_3]); first | done | rfl)
        exact wr_iret hx hb hr hlocks dX5_asking_17 hS (by rw [hE9]; exact f_s) (by rw [hE9]; first | done | rfl)
theorem c2_X5_asking (l : Launch) (G : GG) (AD ad td : Nat → Nat) (wd wt : WT) (tk : Bool) (rn : Int32) (bo : Nat → Int32) (stuff : Int32) (moved : Int32) (times : Int32) (eat : Bool) (word : Int32) (looks : Int32) (truly : Int32) (hN : cN AD ad td) (r9 : Int32) (wd9 : WT) (hy9 : s_asking wd stuff moved times eat word looks truly = (r9, wd9)) : Met l yX5_asking wsX5_asking { frames := 1, cells := 0, slots := 0, locals := 23 } (roP G [.ref (AD 0), .int stuff, .int moved, .int times, .int (b2i eat), .int word, .int looks, .int truly] (fun H => CAt G AD ad td wd wt tk rn bo H)) (wrQ (some (.int r9)) (fun H => CAt G AD ad td wd9 wt tk rn bo H) (cA AD ad td)) 0 0 (cA AD ad td) := by
  have h9 := c_X5_asking l G AD ad td wd wt tk rn bo stuff moved times eat word looks truly hN
  rw [hy9] at h9
  exact h9
theorem i_X5_answer_X5 : ∀ w ∈ wsX50, w ∈ wsX5_answer := fun _ h => List.mem_cons_of_mem _ (List.mem_append_left _ (List.mem_append_left _ (List.mem_append_right _ h)))
theorem k_X5_answer_fieldLink_14 : Cond.fieldLink RX5 14 "SameWater" "now" "LSameWater$World;" ∈ wsX5_answer := by decide +kernel
theorem i_X5_answer_X4 : ∀ w ∈ wsX40, w ∈ wsX5_answer := fun _ h => List.mem_cons_of_mem _ (List.mem_append_left _ (List.mem_append_right _ h))
theorem k_X5_answer_fieldLink_28 : Cond.fieldLink RX5 28 "SameWater$World" "children" "LSameWater$Rows;" ∈ wsX5_answer := by decide +kernel
theorem k_X5_answer_fieldLink_61 : Cond.fieldLink RX5 61 "SameWater$World" "askings" "LSameWater$Rows;" ∈ wsX5_answer := by decide +kernel
theorem k_X5_answer_fieldLink_72 : Cond.fieldLink RX5 72 "SameWater$World" "answers" "LSameWater$Rows;" ∈ wsX5_answer := by decide +kernel
def s_answer (wd : WT) (child : Int32) (asking : Int32) (said : Int32) (why : Bool) : Int32 × WT := if (f_has (wCh wd) child) = true then if (f_has (wAs wd) asking) = true then if said < 0 then ((-2), wd) else if said ≤ 2 then if (f_isFull 40 (wAn wd)) = true then ((-4), wd) else (f_add 40 (wAn wd), (wSetAn wd (g_put 5 (g_put 5 (g_put 5 (g_put 5 (g_put 5 (g_add 40 (wAn wd)) (f_add 40 (wAn wd)) 0 child) (f_add 40 (wAn wd)) 1 asking) (f_add 40 (wAn wd)) 2 said) (f_add 40 (wAn wd)) 3 (b2i (if why = true then true else false))) (f_add 40 (wAn wd)) 4 (f_at 5 (wCh (wSetAn wd (g_put 5 (g_put 5 (g_put 5 (g_put 5 (g_add 40 (wAn wd)) (f_add 40 (wAn wd)) 0 child) (f_add 40 (wAn wd)) 1 asking) (f_add 40 (wAn wd)) 2 said) (f_add 40 (wAn wd)) 3 (b2i (if why = true then true else false))))) child 0)))) else ((-2), wd) else ((-1), wd) else ((-1), wd)
set_option maxHeartbeats 4000000 in
set_option maxRecDepth 100000 in
theorem c_X5_answer (l : Launch) (G : GG) (AD ad td : Nat → Nat) (wd wt : WT) (tk : Bool) (rn : Int32) (bo : Nat → Int32) (child : Int32) (asking : Int32) (said : Int32) (why : Bool) (hN : cN AD ad td) : Met l yX5_answer wsX5_answer { frames := 1, cells := 0, slots := 0, locals := 23 } (roP G [.ref (AD 0), .int child, .int asking, .int said, .int (b2i why)] (fun H => CAt G AD ad td wd wt tk rn bo H)) (wrQ (some (.int ((s_answer wd child asking said why).1))) (fun H => CAt G AD ad td ((s_answer wd child asking said why).2) wt tk rn bo H) (cA AD ad td)) 0 0 (cA AD ad td) := by
  refine Met.ofW (cc := cX5_answer) (maxL := 6) (ret := (some .int)) (by decide) rfl ?_
  intro p e s m args below meth c s₁ Bd hml hv
  obtain ⟨rfl, hK, hB⟩ := hv
  have hx := Bd.exec
  have hb := Bd.bytes
  have hr := Bd.returns
  have hts := atoms_spec (ws := wsX5_answer) Bd.pre
  have hown : s.vm.findClass RX5 = some m.cls := findClass_of_methodNamed Bd.named
  have hlocks := Bd.notSynchronized
  have hC : CallFix p m c cX5_answer 6 s _ wsX5_answer RX5 := ⟨hx, hb, hml, hown, hts⟩
  have hl := lv_entry ([.ref (AD 0), .int child, .int asking, .int said, .int (b2i why)]) (n := 6) (Nat.le_of_ble_eq_true rfl)
  rw [lg_entry_eq]
  generalize (lg_sl ([.ref (AD 0), .int child, .int asking, .int said, .int (b2i why)]) ++ List.replicate (6 - (lg_sl ([.ref (AD 0), .int child, .int asking, .int said, .int (b2i why)])).length) Slot.unset).toArray = ls at hl ⊢
  have hl : lv_has ls 6 [(0, .ref (AD 0)), (1, .int child), (2, .int asking), (3, .int said), (4, .int (b2i why))] := hl
  have hS : wS (cA AD ad td) s.heap s.heap [] := wS.rf
  have f_s := hB
  have hZ := trivial
  refine lv_aload_n hx hb dX5_answer_0 rfl (lv_at hl 0 rfl) ?_
  refine r_get (C := RX5) (T := TX5) (N := 4) hx hb hts i_X5_answer_X5 hown hK f_s.1 rfl 0 (by decide) k_X5_answer_fieldLink_14 rfl rfl dX5_answer_1 ?_
  refine r_get (C := RX4) (T := TX4) (N := 6) hx hb hts i_X5_answer_X4 hown hK f_s.2.1.1 rfl 0 (by decide) k_X5_answer_fieldLink_28 rfl rfl dX5_answer_4 ?_
  refine lv_iload_n hx hb dX5_answer_7 rfl (lv_at hl 1 rfl) ?_
  refine ro_call (va_runV (As := [.int child]) (rest := []) hC (c_X2_has l G (ad 1) (ad 2) 8 5 (wCh wd) child) (cwV 1 hts gX5_answer_X2_has rfl rfl rfl kd_X2_has ⟨Nat.le_of_ble_eq_true rfl, Nat.le_of_ble_eq_true rfl⟩) (ro_preV hK f_s.2.1.2.1.1 rfl f_s.2.1.2.1) rfl rfl hl.1 rfl (lv_room (Nat.le_of_ble_eq_true rfl)) dX5_answer_8 ⟨Nat.zero_le _, Nat.zero_le _⟩) ?_
  refine bz_eq (tgt := 28) hx hb dX5_answer_11 (by decide) (fun h_1 => ?_) (fun h_1 => ?_)
  · refine lv_iconst (v := (-1)) hx hb dX5_answer_28 (by decide) ?_
    have hE9 : s_answer wd child asking said why = ((-1), wd) := (by (try unfold s_answer); (repeat rw [if_neg h_1]); first | done | rfl)
    exact wr_iret hx hb hr hlocks dX5_answer_29 hS (by rw [hE9]; exact f_s) (by rw [hE9]; first | done | rfl)
  · refine lv_aload_n hx hb dX5_answer_14 rfl (lv_at hl 0 rfl) ?_
    refine r_get (C := RX5) (T := TX5) (N := 4) hx hb hts i_X5_answer_X5 hown hK f_s.1 rfl 0 (by decide) k_X5_answer_fieldLink_14 rfl rfl dX5_answer_15 ?_
    refine r_get (C := RX4) (T := TX4) (N := 6) hx hb hts i_X5_answer_X4 hown hK f_s.2.1.1 rfl 1 (by decide) k_X5_answer_fieldLink_61 rfl rfl dX5_answer_18 ?_
    refine lv_iload_n hx hb dX5_answer_21 rfl (lv_at hl 2 rfl) ?_
    refine ro_call (va_runV (As := [.int asking]) (rest := []) hC (c_X2_has l G (ad 3) (ad 4) 16 7 (wAs wd) asking) (cwV 1 hts gX5_answer_X2_has rfl rfl rfl kd_X2_has ⟨Nat.le_of_ble_eq_true rfl, Nat.le_of_ble_eq_true rfl⟩) (ro_preV hK f_s.2.1.2.2.1.1 rfl f_s.2.1.2.2.1) rfl rfl hl.1 rfl (lv_room (Nat.le_of_ble_eq_true rfl)) dX5_answer_22 ⟨Nat.zero_le _, Nat.zero_le _⟩) ?_
    refine bz_ne (tgt := 30) hx hb dX5_answer_25 (by decide) (fun h_2 => ?_) (fun h_2 => ?_)
    · refine lv_iload_n hx hb dX5_answer_30 rfl (lv_at hl 3 rfl) ?_
      refine lv_if_lt (tgt := 39) hx hb dX5_answer_31 (by decide) (fun h_3 => ?_) (fun h_3 => ?_)
      · refine lv_bipush (v := (-2)) hx hb dX5_answer_39 (by decide +kernel) ?_
        have hE9 : s_answer wd child asking said why = ((-2), wd) := (by (try unfold s_answer); (repeat rw [if_pos h_1]); (repeat rw [if_pos h_2]); (repeat rw [if_pos h_3]); first | done | rfl)
        exact wr_iret hx hb hr hlocks dX5_answer_41 hS (by rw [hE9]; exact f_s) (by rw [hE9]; first | done | rfl)
      · refine lv_iload_n hx hb dX5_answer_34 rfl (lv_at hl 3 rfl) ?_
        refine lv_iconst (v := 2) hx hb dX5_answer_35 (by decide) ?_
        refine lv_icmp_le (tgt := 42) hx hb dX5_answer_36 (by decide) (fun h_4 => ?_) (fun h_4 => ?_)
        · refine lv_aload_n hx hb dX5_answer_42 rfl (lv_at hl 0 rfl) ?_
          refine r_get (C := RX5) (T := TX5) (N := 4) hx hb hts i_X5_answer_X5 hown hK f_s.1 rfl 0 (by decide) k_X5_answer_fieldLink_14 rfl rfl dX5_answer_43 ?_
          refine r_get (C := RX4) (T := TX4) (N := 6) hx hb hts i_X5_answer_X4 hown hK f_s.2.1.1 rfl 2 (by decide) k_X5_answer_fieldLink_72 rfl rfl dX5_answer_46 ?_
          refine ro_call (va_runV (As := []) (rest := []) hC (c_X2_isFull l G (ad 5) (ad 6) 40 5 (wAn wd)) (cwV 0 hts gX5_answer_X2_isFull rfl rfl rfl kd_X2_isFull ⟨Nat.le_of_ble_eq_true rfl, Nat.le_of_ble_eq_true rfl⟩) (ro_preV hK f_s.2.1.2.2.2.1.1 rfl f_s.2.1.2.2.2.1) rfl rfl hl.1 rfl (lv_room (Nat.le_of_ble_eq_true rfl)) dX5_answer_49 ⟨Nat.zero_le _, Nat.zero_le _⟩) ?_
          refine bz_eq (tgt := 58) hx hb dX5_answer_52 (by decide) (fun h_5 => ?_) (fun h_5 => ?_)
          · refine lv_aload_n hx hb dX5_answer_58 rfl (lv_at hl 0 rfl) ?_
            refine r_get (C := RX5) (T := TX5) (N := 4) hx hb hts i_X5_answer_X5 hown hK f_s.1 rfl 0 (by decide) k_X5_answer_fieldLink_14 rfl rfl dX5_answer_59 ?_
            refine r_get (C := RX4) (T := TX4) (N := 6) hx hb hts i_X5_answer_X4 hown hK f_s.2.1.1 rfl 2 (by decide) k_X5_answer_fieldLink_72 rfl rfl dX5_answer_62 ?_
            refine wr_call (va_runV (As := []) (rest := []) hC (c_X2_add l G (ad 5) (ad 6) 40 5 (wAn wd) (hN.1 5 6 (by decide) (by decide) (by decide))) (cwV 0 hts gX5_answer_X2_add rfl rfl rfl kd_X2_add ⟨Nat.le_of_ble_eq_true rfl, Nat.le_of_ble_eq_true rfl⟩) (ro_preV hK f_s.2.1.2.2.2.1.1 rfl f_s.2.1.2.2.2.1) rfl rfl hl.1 rfl (lv_room (Nat.le_of_ble_eq_true rfl)) dX5_answer_65 ⟨Nat.zero_le _, Nat.zero_le _⟩) hS (fun q h => (Or.inr (Or.inl (h ▸ wA.in ad 5 (by decide))))) (fun H locs f_n hq hS => ?_)
            have f_s := (CAt.setNow f_s hN (f_s.2.1.setAn hN.1 f_n (fun q h => hq q (fun e => h (Or.inl e)))) (fun q h => hq q (fun e => h (e ▸ wA.in ad 5 (by decide)))))
            refine lv_istore (lv' := [(5, .int (f_add 40 (wAn wd))), (0, .ref (AD 0)), (1, .int child), (2, .int asking), (3, .int said), (4, .int (b2i why))]) hx hb dX5_answer_68 hl (by decide) rfl (fun ls hl => ?_)
            refine lv_aload_n hx hb dX5_answer_70 rfl (lv_at hl 1 rfl) ?_
            refine r_get (C := RX5) (T := TX5) (N := 4) hx hb hts i_X5_answer_X5 hown hK f_s.1 rfl 0 (by decide) k_X5_answer_fieldLink_14 rfl rfl dX5_answer_71 ?_
            refine r_get (C := RX4) (T := TX4) (N := 6) hx hb hts i_X5_answer_X4 hown hK f_s.2.1.1 rfl 2 (by decide) k_X5_answer_fieldLink_72 rfl rfl dX5_answer_74 ?_
            refine lv_iload hx hb dX5_answer_77 (lv_at hl 0 rfl) ?_
            refine lv_iconst (v := 0) hx hb dX5_answer_79 (by decide) ?_
            refine lv_iload_n hx hb dX5_answer_80 rfl (lv_at hl 2 rfl) ?_
            refine wr_callv (va_runV (As := [.int (f_add 40 (wAn wd)), .int 0, .int child]) (rest := []) hC (c_X2_put l G (ad 5) (ad 6) 40 5 (g_add 40 (wAn wd)) (f_add 40 (wAn wd)) 0 child (hN.1 5 6 (by decide) (by decide) (by decide))) (cwV 3 hts gX5_answer_X2_put rfl rfl rfl kd_X2_put ⟨Nat.le_of_ble_eq_true rfl, Nat.le_of_ble_eq_true rfl⟩) (ro_preV hK f_s.2.1.2.2.2.1.1 rfl f_s.2.1.2.2.2.1) rfl rfl hl.1 rfl (lv_room (Nat.le_of_ble_eq_true rfl)) dX5_answer_81 ⟨Nat.zero_le _, Nat.zero_le _⟩) hS (fun q h => (Or.inr (Or.inl (h ▸ wA.in ad 6 (by decide))))) (fun H locs f_n hq hS => ?_)
            have f_s := (CAt.setNow f_s hN (f_s.2.1.setAn hN.1 f_n (fun q h => hq q (fun e => h (Or.inr e)))) (fun q h => hq q (fun e => h (e ▸ wA.in ad 6 (by decide)))))
            refine lv_aload_n hx hb dX5_answer_84 rfl (lv_at hl 1 rfl) ?_
            refine r_get (C := RX5) (T := TX5) (N := 4) hx hb hts i_X5_answer_X5 hown hK f_s.1 rfl 0 (by decide) k_X5_answer_fieldLink_14 rfl rfl dX5_answer_85 ?_
            refine r_get (C := RX4) (T := TX4) (N := 6) hx hb hts i_X5_answer_X4 hown hK f_s.2.1.1 rfl 2 (by decide) k_X5_answer_fieldLink_72 rfl rfl dX5_answer_88 ?_
            refine lv_iload hx hb dX5_answer_91 (lv_at hl 0 rfl) ?_
            refine lv_iconst (v := 1) hx hb dX5_answer_93 (by decide) ?_
            refine lv_iload_n hx hb dX5_answer_94 rfl (lv_at hl 3 rfl) ?_
            refine wr_callv (va_runV (As := [.int (f_add 40 (wAn wd)), .int 1, .int asking]) (rest := []) hC (c_X2_put l G (ad 5) (ad 6) 40 5 (g_put 5 (g_add 40 (wAn wd)) (f_add 40 (wAn wd)) 0 child) (f_add 40 (wAn wd)) 1 asking (hN.1 5 6 (by decide) (by decide) (by decide))) (cwV 3 hts gX5_answer_X2_put rfl rfl rfl kd_X2_put ⟨Nat.le_of_ble_eq_true rfl, Nat.le_of_ble_eq_true rfl⟩) (ro_preV hK f_s.2.1.2.2.2.1.1 rfl f_s.2.1.2.2.2.1) rfl rfl hl.1 rfl (lv_room (Nat.le_of_ble_eq_true rfl)) dX5_answer_95 ⟨Nat.zero_le _, Nat.zero_le _⟩) hS (fun q h => (Or.inr (Or.inl (h ▸ wA.in ad 6 (by decide))))) (fun H locs f_n hq hS => ?_)
            have f_s := (CAt.setNow f_s hN (f_s.2.1.setAn hN.1 f_n (fun q h => hq q (fun e => h (Or.inr e)))) (fun q h => hq q (fun e => h (e ▸ wA.in ad 6 (by decide)))))
            refine lv_aload_n hx hb dX5_answer_98 rfl (lv_at hl 1 rfl) ?_
            refine r_get (C := RX5) (T := TX5) (N := 4) hx hb hts i_X5_answer_X5 hown hK f_s.1 rfl 0 (by decide) k_X5_answer_fieldLink_14 rfl rfl dX5_answer_99 ?_
            refine r_get (C := RX4) (T := TX4) (N := 6) hx hb hts i_X5_answer_X4 hown hK f_s.2.1.1 rfl 2 (by decide) k_X5_answer_fieldLink_72 rfl rfl dX5_answer_102 ?_
            refine lv_iload hx hb dX5_answer_105 (lv_at hl 0 rfl) ?_
            refine lv_iconst (v := 2) hx hb dX5_answer_107 (by decide) ?_
            refine lv_iload_n hx hb dX5_answer_108 rfl (lv_at hl 4 rfl) ?_
            refine wr_callv (va_runV (As := [.int (f_add 40 (wAn wd)), .int 2, .int said]) (rest := []) hC (c_X2_put l G (ad 5) (ad 6) 40 5 (g_put 5 (g_put 5 (g_add 40 (wAn wd)) (f_add 40 (wAn wd)) 0 child) (f_add 40 (wAn wd)) 1 asking) (f_add 40 (wAn wd)) 2 said (hN.1 5 6 (by decide) (by decide) (by decide))) (cwV 3 hts gX5_answer_X2_put rfl rfl rfl kd_X2_put ⟨Nat.le_of_ble_eq_true rfl, Nat.le_of_ble_eq_true rfl⟩) (ro_preV hK f_s.2.1.2.2.2.1.1 rfl f_s.2.1.2.2.2.1) rfl rfl hl.1 rfl (lv_room (Nat.le_of_ble_eq_true rfl)) dX5_answer_109 ⟨Nat.zero_le _, Nat.zero_le _⟩) hS (fun q h => (Or.inr (Or.inl (h ▸ wA.in ad 6 (by decide))))) (fun H locs f_n hq hS => ?_)
            have f_s := (CAt.setNow f_s hN (f_s.2.1.setAn hN.1 f_n (fun q h => hq q (fun e => h (Or.inr e)))) (fun q h => hq q (fun e => h (e ▸ wA.in ad 6 (by decide)))))
            refine lv_aload_n hx hb dX5_answer_112 rfl (lv_at hl 1 rfl) ?_
            refine r_get (C := RX5) (T := TX5) (N := 4) hx hb hts i_X5_answer_X5 hown hK f_s.1 rfl 0 (by decide) k_X5_answer_fieldLink_14 rfl rfl dX5_answer_113 ?_
            refine r_get (C := RX4) (T := TX4) (N := 6) hx hb hts i_X5_answer_X4 hown hK f_s.2.1.1 rfl 2 (by decide) k_X5_answer_fieldLink_72 rfl rfl dX5_answer_116 ?_
            refine lv_iload hx hb dX5_answer_119 (lv_at hl 0 rfl) ?_
            refine lv_iconst (v := 3) hx hb dX5_answer_121 (by decide) ?_
            refine lv_iload hx hb dX5_answer_122 (lv_at hl 5 rfl) ?_
            refine join_wr (nL := 6) 132 [(5, .int (f_add 40 (wAn wd))), (0, .ref (AD 0)), (1, .int child), (2, .int asking), (3, .int said), (4, .int (b2i why))] [.int (b2i (if why = true then true else false)), .int 3, .int (f_add 40 (wAn wd)), .ref (ad 5)] (fun H locs => (CAt G AD ad td (wSetAn wd (g_put 5 (g_put 5 (g_put 5 (g_add 40 (wAn wd)) (f_add 40 (wAn wd)) 0 child) (f_add 40 (wAn wd)) 1 asking) (f_add 40 (wAn wd)) 2 said)) wt tk rn bo H) ∧ wS (cA AD ad td) s.heap H locs ∧ True) (fun H locs hI ls hl => ?_) (fun J_6 => ?_)
            · obtain ⟨f_s, hS, hZ⟩ := hI
              refine wr_callv (va_runV (As := [.int (f_add 40 (wAn wd)), .int 3, .int (b2i (if why = true then true else false))]) (rest := []) hC (c_X2_put l G (ad 5) (ad 6) 40 5 (g_put 5 (g_put 5 (g_put 5 (g_add 40 (wAn wd)) (f_add 40 (wAn wd)) 0 child) (f_add 40 (wAn wd)) 1 asking) (f_add 40 (wAn wd)) 2 said) (f_add 40 (wAn wd)) 3 (b2i (if why = true then true else false)) (hN.1 5 6 (by decide) (by decide) (by decide))) (cwV 3 hts gX5_answer_X2_put rfl rfl rfl kd_X2_put ⟨Nat.le_of_ble_eq_true rfl, Nat.le_of_ble_eq_true rfl⟩) (ro_preV hK f_s.2.1.2.2.2.1.1 rfl f_s.2.1.2.2.2.1) rfl rfl hl.1 rfl (lv_room (Nat.le_of_ble_eq_true rfl)) dX5_answer_132 ⟨Nat.zero_le _, Nat.zero_le _⟩) hS (fun q h => (Or.inr (Or.inl (h ▸ wA.in ad 6 (by decide))))) (fun H locs f_n hq hS => ?_)
              have f_s := (CAt.setNow f_s hN (f_s.2.1.setAn hN.1 f_n (fun q h => hq q (fun e => h (Or.inr e)))) (fun q h => hq q (fun e => h (e ▸ wA.in ad 6 (by decide)))))
              refine lv_aload_n hx hb dX5_answer_135 rfl (lv_at hl 1 rfl) ?_
              refine r_get (C := RX5) (T := TX5) (N := 4) hx hb hts i_X5_answer_X5 hown hK f_s.1 rfl 0 (by decide) k_X5_answer_fieldLink_14 rfl rfl dX5_answer_136 ?_
              refine r_get (C := RX4) (T := TX4) (N := 6) hx hb hts i_X5_answer_X4 hown hK f_s.2.1.1 rfl 2 (by decide) k_X5_answer_fieldLink_72 rfl rfl dX5_answer_139 ?_
              refine lv_iload hx hb dX5_answer_142 (lv_at hl 0 rfl) ?_
              refine lv_iconst (v := 4) hx hb dX5_answer_144 (by decide) ?_
              refine lv_aload_n hx hb dX5_answer_145 rfl (lv_at hl 1 rfl) ?_
              refine r_get (C := RX5) (T := TX5) (N := 4) hx hb hts i_X5_answer_X5 hown hK f_s.1 rfl 0 (by decide) k_X5_answer_fieldLink_14 rfl rfl dX5_answer_146 ?_
              refine r_get (C := RX4) (T := TX4) (N := 6) hx hb hts i_X5_answer_X4 hown hK f_s.2.1.1 rfl 0 (by decide) k_X5_answer_fieldLink_28 rfl rfl dX5_answer_149 ?_
              refine lv_iload_n hx hb dX5_answer_152 rfl (lv_at hl 2 rfl) ?_
              refine lv_iconst (v := 0) hx hb dX5_answer_153 (by decide) ?_
              refine ro_call (va_runV (As := [.int child, .int 0]) (rest := [.int 4, .int (f_add 40 (wAn wd)), .ref (ad 5)]) hC (c_X2_at l G (ad 1) (ad 2) 8 5 (wCh (wSetAn wd (g_put 5 (g_put 5 (g_put 5 (g_put 5 (g_add 40 (wAn wd)) (f_add 40 (wAn wd)) 0 child) (f_add 40 (wAn wd)) 1 asking) (f_add 40 (wAn wd)) 2 said) (f_add 40 (wAn wd)) 3 (b2i (if why = true then true else false))))) child 0) (cwV 2 hts gX5_answer_X2_at rfl rfl rfl kd_X2_at ⟨Nat.le_of_ble_eq_true rfl, Nat.le_of_ble_eq_true rfl⟩) (ro_preV hK f_s.2.1.2.1.1 rfl f_s.2.1.2.1) rfl rfl hl.1 rfl (lv_room (Nat.le_of_ble_eq_true rfl)) dX5_answer_154 ⟨Nat.zero_le _, Nat.zero_le _⟩) ?_
              refine wr_callv (va_runV (As := [.int (f_add 40 (wAn wd)), .int 4, .int (f_at 5 (wCh (wSetAn wd (g_put 5 (g_put 5 (g_put 5 (g_put 5 (g_add 40 (wAn wd)) (f_add 40 (wAn wd)) 0 child) (f_add 40 (wAn wd)) 1 asking) (f_add 40 (wAn wd)) 2 said) (f_add 40 (wAn wd)) 3 (b2i (if why = true then true else false))))) child 0)]) (rest := []) hC (c_X2_put l G (ad 5) (ad 6) 40 5 (g_put 5 (g_put 5 (g_put 5 (g_put 5 (g_add 40 (wAn wd)) (f_add 40 (wAn wd)) 0 child) (f_add 40 (wAn wd)) 1 asking) (f_add 40 (wAn wd)) 2 said) (f_add 40 (wAn wd)) 3 (b2i (if why = true then true else false))) (f_add 40 (wAn wd)) 4 (f_at 5 (wCh (wSetAn wd (g_put 5 (g_put 5 (g_put 5 (g_put 5 (g_add 40 (wAn wd)) (f_add 40 (wAn wd)) 0 child) (f_add 40 (wAn wd)) 1 asking) (f_add 40 (wAn wd)) 2 said) (f_add 40 (wAn wd)) 3 (b2i (if why = true then true else false))))) child 0) (hN.1 5 6 (by decide) (by decide) (by decide))) (cwV 3 hts gX5_answer_X2_put rfl rfl rfl kd_X2_put ⟨Nat.le_of_ble_eq_true rfl, Nat.le_of_ble_eq_true rfl⟩) (ro_preV hK f_s.2.1.2.2.2.1.1 rfl f_s.2.1.2.2.2.1) rfl rfl hl.1 rfl (lv_room (Nat.le_of_ble_eq_true rfl)) dX5_answer_157 ⟨Nat.zero_le _, Nat.zero_le _⟩) hS (fun q h => (Or.inr (Or.inl (h ▸ wA.in ad 6 (by decide))))) (fun H locs f_n hq hS => ?_)
              have f_s := (CAt.setNow f_s hN (f_s.2.1.setAn hN.1 f_n (fun q h => hq q (fun e => h (Or.inr e)))) (fun q h => hq q (fun e => h (e ▸ wA.in ad 6 (by decide)))))
              refine lv_iload hx hb dX5_answer_160 (lv_at hl 0 rfl) ?_
              have hE9 : s_answer wd child asking said why = (f_add 40 (wAn wd), (wSetAn wd (g_put 5 (g_put 5 (g_put 5 (g_put 5 (g_put 5 (g_add 40 (wAn wd)) (f_add 40 (wAn wd)) 0 child) (f_add 40 (wAn wd)) 1 asking) (f_add 40 (wAn wd)) 2 said) (f_add 40 (wAn wd)) 3 (b2i (if why = true then true else false))) (f_add 40 (wAn wd)) 4 (f_at 5 (wCh (wSetAn wd (g_put 5 (g_put 5 (g_put 5 (g_put 5 (g_add 40 (wAn wd)) (f_add 40 (wAn wd)) 0 child) (f_add 40 (wAn wd)) 1 asking) (f_add 40 (wAn wd)) 2 said) (f_add 40 (wAn wd)) 3 (b2i (if why = true then true else false))))) child 0)))) := (by (try unfold s_answer); (repeat rw [if_pos h_1]); (repeat rw [if_pos h_2]); (repeat rw [if_neg h_3]); (repeat rw [if_pos h_4]); (repeat rw [if_neg h_5]); first | done | rfl)
              exact wr_iret hx hb hr hlocks dX5_answer_162 hS (by rw [hE9]; exact f_s) (by rw [hE9]; first | done | rfl)
            · refine bz_eq (tgt := 131) hx hb dX5_answer_124 (by decide) (fun h_7 => ?_) (fun h_7 => ?_)
              · refine lv_iconst (v := 0) hx hb dX5_answer_131 (by decide) ?_
                have hJ := J_6; (repeat rw [if_neg h_7] at hJ)
                first | exact hJ _ _ ⟨f_s, hS, hZ⟩ ls (lv_sub hl [0, 1, 2, 3, 4, 5] rfl) | ((repeat rw [if_neg h_7] at hl); (repeat rw [if_neg h_7]); exact hJ _ _ ⟨f_s, hS, hZ⟩ ls (lv_sub hl [0, 1, 2, 3, 4, 5] rfl))
              · refine lv_iconst (v := 1) hx hb dX5_answer_127 (by decide) ?_
                refine lv_goto (tgt := 132) hx hb dX5_answer_128 (by decide) ?_
                have hJ := J_6; (repeat rw [if_pos h_7] at hJ)
                first | exact hJ _ _ ⟨f_s, hS, hZ⟩ ls (lv_sub hl [0, 1, 2, 3, 4, 5] rfl) | ((repeat rw [if_pos h_7] at hl); (repeat rw [if_pos h_7]); exact hJ _ _ ⟨f_s, hS, hZ⟩ ls (lv_sub hl [0, 1, 2, 3, 4, 5] rfl))
          · refine lv_bipush (v := (-4)) hx hb dX5_answer_55 (by decide +kernel) ?_
            have hE9 : s_answer wd child asking said why = ((-4), wd) := (by (try unfold s_answer); (repeat rw [if_pos h_1]); (repeat rw [if_pos h_2]); (repeat rw [if_neg h_3]); (repeat rw [if_pos h_4]); (repeat rw [if_pos h_5]); first | done | rfl)
            exact wr_iret hx hb hr hlocks dX5_answer_57 hS (by rw [hE9]; exact f_s) (by rw [hE9]; first | done | rfl)
        · refine lv_bipush (v := (-2)) hx hb dX5_answer_39 (by decide +kernel) ?_
          have hE9 : s_answer wd child asking said why = ((-2), wd) := (by (try unfold s_answer); (repeat rw [if_pos h_1]); (repeat rw [if_pos h_2]); (repeat rw [if_neg h_3]); (repeat rw [if_neg h_4]); first | done | rfl)
          exact wr_iret hx hb hr hlocks dX5_answer_41 hS (by rw [hE9]; exact f_s) (by rw [hE9]; first | done | rfl)
    · refine lv_iconst (v := (-1)) hx hb dX5_answer_28 (by decide) ?_
      have hE9 : s_answer wd child asking said why = ((-1), wd) := (by (try unfold s_answer); (repeat rw [if_pos h_1]); (repeat rw [if_neg h_2]); first | done | rfl)
      exact wr_iret hx hb hr hlocks dX5_answer_29 hS (by rw [hE9]; exact f_s) (by rw [hE9]; first | done | rfl)
theorem c2_X5_answer (l : Launch) (G : GG) (AD ad td : Nat → Nat) (wd wt : WT) (tk : Bool) (rn : Int32) (bo : Nat → Int32) (child : Int32) (asking : Int32) (said : Int32) (why : Bool) (hN : cN AD ad td) (r9 : Int32) (wd9 : WT) (hy9 : s_answer wd child asking said why = (r9, wd9)) : Met l yX5_answer wsX5_answer { frames := 1, cells := 0, slots := 0, locals := 23 } (roP G [.ref (AD 0), .int child, .int asking, .int said, .int (b2i why)] (fun H => CAt G AD ad td wd wt tk rn bo H)) (wrQ (some (.int r9)) (fun H => CAt G AD ad td wd9 wt tk rn bo H) (cA AD ad td)) 0 0 (cA AD ad td) := by
  have h9 := c_X5_answer l G AD ad td wd wt tk rn bo child asking said why hN
  rw [hy9] at h9
  exact h9
theorem i_X5_teach_X5 : ∀ w ∈ wsX50, w ∈ wsX5_teach := fun _ h => List.mem_cons_of_mem _ (List.mem_append_left _ (List.mem_append_left _ (List.mem_append_right _ h)))
theorem k_X5_teach_fieldLink_14 : Cond.fieldLink RX5 14 "SameWater" "now" "LSameWater$World;" ∈ wsX5_teach := by decide +kernel
theorem i_X5_teach_X4 : ∀ w ∈ wsX40, w ∈ wsX5_teach := fun _ h => List.mem_cons_of_mem _ (List.mem_append_left _ (List.mem_append_right _ h))
theorem k_X5_teach_fieldLink_28 : Cond.fieldLink RX5 28 "SameWater$World" "children" "LSameWater$Rows;" ∈ wsX5_teach := by decide +kernel
theorem kd_X4_teachNow : yX4_teachNow.cls = RX4 ∧ yX4_teachNow.cls ≠ "java/lang/invoke/MethodHandle" ∧ yX4_teachNow.cls ≠ "java/lang/invoke/VarHandle" ∧ (parseMethodDescriptor yX4_teachNow.desc).map (fun d => d.parameters.length) = some 2 := by decide +kernel
def s_teach (wd : WT) (child : Int32) (stuff : Int32) : Int32 × WT := if (f_has (wCh wd) child) = true then if (f_isStuff stuff) = true then (b2i (if (u_teachNow wd child stuff).1 = true then true else false), (u_teachNow wd child stuff).2) else ((-1), wd) else ((-1), wd)
set_option maxHeartbeats 4000000 in
set_option maxRecDepth 100000 in
theorem c_X5_teach (l : Launch) (G : GG) (AD ad td : Nat → Nat) (wd wt : WT) (tk : Bool) (rn : Int32) (bo : Nat → Int32) (child : Int32) (stuff : Int32) (hN : cN AD ad td) : Met l yX5_teach wsX5_teach { frames := 2, cells := 0, slots := 0, locals := 45 } (roP G [.ref (AD 0), .int child, .int stuff] (fun H => CAt G AD ad td wd wt tk rn bo H)) (wrQ (some (.int ((s_teach wd child stuff).1))) (fun H => CAt G AD ad td ((s_teach wd child stuff).2) wt tk rn bo H) (cA AD ad td)) 0 0 (cA AD ad td) := by
  refine Met.ofW (cc := cX5_teach) (maxL := 3) (ret := (some .int)) (by decide) rfl ?_
  intro p e s m args below meth c s₁ Bd hml hv
  obtain ⟨rfl, hK, hB⟩ := hv
  have hx := Bd.exec
  have hb := Bd.bytes
  have hr := Bd.returns
  have hts := atoms_spec (ws := wsX5_teach) Bd.pre
  have hown : s.vm.findClass RX5 = some m.cls := findClass_of_methodNamed Bd.named
  have hlocks := Bd.notSynchronized
  have hC : CallFix p m c cX5_teach 3 s _ wsX5_teach RX5 := ⟨hx, hb, hml, hown, hts⟩
  have hl := lv_entry ([.ref (AD 0), .int child, .int stuff]) (n := 3) (Nat.le_of_ble_eq_true rfl)
  rw [lg_entry_eq]
  generalize (lg_sl ([.ref (AD 0), .int child, .int stuff]) ++ List.replicate (3 - (lg_sl ([.ref (AD 0), .int child, .int stuff])).length) Slot.unset).toArray = ls at hl ⊢
  have hl : lv_has ls 3 [(0, .ref (AD 0)), (1, .int child), (2, .int stuff)] := hl
  have hS : wS (cA AD ad td) s.heap s.heap [] := wS.rf
  have f_s := hB
  have hZ := trivial
  refine lv_aload_n hx hb dX5_teach_0 rfl (lv_at hl 0 rfl) ?_
  refine r_get (C := RX5) (T := TX5) (N := 4) hx hb hts i_X5_teach_X5 hown hK f_s.1 rfl 0 (by decide) k_X5_teach_fieldLink_14 rfl rfl dX5_teach_1 ?_
  refine r_get (C := RX4) (T := TX4) (N := 6) hx hb hts i_X5_teach_X4 hown hK f_s.2.1.1 rfl 0 (by decide) k_X5_teach_fieldLink_28 rfl rfl dX5_teach_4 ?_
  refine lv_iload_n hx hb dX5_teach_7 rfl (lv_at hl 1 rfl) ?_
  refine ro_call (va_runV (As := [.int child]) (rest := []) hC (c_X2_has l G (ad 1) (ad 2) 8 5 (wCh wd) child) (cwV 1 hts gX5_teach_X2_has rfl rfl rfl kd_X2_has ⟨Nat.le_of_ble_eq_true rfl, Nat.le_of_ble_eq_true rfl⟩) (ro_preV hK f_s.2.1.2.1.1 rfl f_s.2.1.2.1) rfl rfl hl.1 rfl (lv_room (Nat.le_of_ble_eq_true rfl)) dX5_teach_8 ⟨Nat.zero_le _, Nat.zero_le _⟩) ?_
  refine bz_eq (tgt := 21) hx hb dX5_teach_11 (by decide) (fun h_1 => ?_) (fun h_1 => ?_)
  · refine lv_iconst (v := (-1)) hx hb dX5_teach_21 (by decide) ?_
    have hE9 : s_teach wd child stuff = ((-1), wd) := (by (try unfold s_teach); (repeat rw [if_neg h_1]); first | done | rfl)
    exact wr_iret hx hb hr hlocks dX5_teach_22 hS (by rw [hE9]; exact f_s) (by rw [hE9]; first | done | rfl)
  · refine lv_iload_n hx hb dX5_teach_14 rfl (lv_at hl 2 rfl) ?_
    refine ro_call (va_runS (As := [.int stuff]) (rest := []) hC (c_X5_isStuff l G stuff) (va_cwS 1 hts gX5_teach_X5_isStuff rfl rfl rfl kd_X5_isStuff ⟨Nat.le_of_ble_eq_true rfl, Nat.le_of_ble_eq_true rfl⟩) (ro_preS hK trivial) rfl rfl hl.1 rfl (lv_room (Nat.le_of_ble_eq_true rfl)) dX5_teach_15 ⟨Nat.zero_le _, Nat.zero_le _⟩) ?_
    refine bz_ne (tgt := 23) hx hb dX5_teach_18 (by decide) (fun h_2 => ?_) (fun h_2 => ?_)
    · refine lv_aload_n hx hb dX5_teach_23 rfl (lv_at hl 0 rfl) ?_
      refine r_get (C := RX5) (T := TX5) (N := 4) hx hb hts i_X5_teach_X5 hown hK f_s.1 rfl 0 (by decide) k_X5_teach_fieldLink_14 rfl rfl dX5_teach_24 ?_
      refine lv_iload_n hx hb dX5_teach_27 rfl (lv_at hl 1 rfl) ?_
      refine lv_iload_n hx hb dX5_teach_28 rfl (lv_at hl 2 rfl) ?_
      refine wr_call (va_runV (As := [.int child, .int stuff]) (rest := []) hC (c_X4_teachNow l G ad wd child stuff hN.1) (cwV 2 hts gX5_teach_X4_teachNow rfl rfl rfl kd_X4_teachNow ⟨Nat.le_of_ble_eq_true rfl, Nat.le_of_ble_eq_true rfl⟩) (ro_preV hK f_s.2.1.1 rfl f_s.2.1) rfl rfl hl.1 rfl (lv_room (Nat.le_of_ble_eq_true rfl)) dX5_teach_29 ⟨Nat.zero_le _, Nat.zero_le _⟩) hS (fun q h => (Or.inr (Or.inl h))) (fun H locs f_n hq hS => ?_)
      have f_s := (f_s.setNow hN f_n hq)
      refine join_wr (nL := 3) 40 [(0, .ref (AD 0)), (1, .int child), (2, .int stuff)] [.int (b2i (if (u_teachNow wd child stuff).1 = true then true else false))] (fun H locs => (CAt G AD ad td ((u_teachNow wd child stuff).2) wt tk rn bo H) ∧ wS (cA AD ad td) s.heap H locs ∧ True) (fun H locs hI ls hl => ?_) (fun J_3 => ?_)
      · obtain ⟨f_s, hS, hZ⟩ := hI
        have hE9 : s_teach wd child stuff = (b2i (if (u_teachNow wd child stuff).1 = true then true else false), (u_teachNow wd child stuff).2) := (by (try unfold s_teach); (repeat rw [if_pos h_1]); (repeat rw [if_pos h_2]); first | done | rfl)
        exact wr_iret hx hb hr hlocks dX5_teach_40 hS (by rw [hE9]; exact f_s) (by rw [hE9]; first | done | rfl)
      · refine bz_eq (tgt := 39) hx hb dX5_teach_32 (by decide) (fun h_4 => ?_) (fun h_4 => ?_)
        · refine lv_iconst (v := 0) hx hb dX5_teach_39 (by decide) ?_
          have hJ := J_3; (repeat rw [if_neg h_4] at hJ)
          first | exact hJ _ _ ⟨f_s, hS, hZ⟩ ls (lv_sub hl [0, 1, 2] rfl) | ((repeat rw [if_neg h_4] at hl); (repeat rw [if_neg h_4]); exact hJ _ _ ⟨f_s, hS, hZ⟩ ls (lv_sub hl [0, 1, 2] rfl))
        · refine lv_iconst (v := 1) hx hb dX5_teach_35 (by decide) ?_
          refine lv_goto (tgt := 40) hx hb dX5_teach_36 (by decide) ?_
          have hJ := J_3; (repeat rw [if_pos h_4] at hJ)
          first | exact hJ _ _ ⟨f_s, hS, hZ⟩ ls (lv_sub hl [0, 1, 2] rfl) | ((repeat rw [if_pos h_4] at hl); (repeat rw [if_pos h_4]); exact hJ _ _ ⟨f_s, hS, hZ⟩ ls (lv_sub hl [0, 1, 2] rfl))
    · refine lv_iconst (v := (-1)) hx hb dX5_teach_21 (by decide) ?_
      have hE9 : s_teach wd child stuff = ((-1), wd) := (by (try unfold s_teach); (repeat rw [if_pos h_1]); (repeat rw [if_neg h_2]); first | done | rfl)
      exact wr_iret hx hb hr hlocks dX5_teach_22 hS (by rw [hE9]; exact f_s) (by rw [hE9]; first | done | rfl)
theorem c2_X5_teach (l : Launch) (G : GG) (AD ad td : Nat → Nat) (wd wt : WT) (tk : Bool) (rn : Int32) (bo : Nat → Int32) (child : Int32) (stuff : Int32) (hN : cN AD ad td) (r9 : Int32) (wd9 : WT) (hy9 : s_teach wd child stuff = (r9, wd9)) : Met l yX5_teach wsX5_teach { frames := 2, cells := 0, slots := 0, locals := 45 } (roP G [.ref (AD 0), .int child, .int stuff] (fun H => CAt G AD ad td wd wt tk rn bo H)) (wrQ (some (.int r9)) (fun H => CAt G AD ad td wd9 wt tk rn bo H) (cA AD ad td)) 0 0 (cA AD ad td) := by
  have h9 := c_X5_teach l G AD ad td wd wt tk rn bo child stuff hN
  rw [hy9] at h9
  exact h9

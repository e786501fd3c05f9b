def lx_holds (test : Int32) (value : Int32) : Bool := if ((test / 1000) - (test / 1000) / 3 * 3) = 0 then (if (test - test / 1000 * 1000) ≤ value then false else true) else if ((test / 1000) - (test / 1000) / 3 * 3) = 1 then (if value = (test - test / 1000 * 1000) then true else false) else (if value ≤ (test - test / 1000 * 1000) then false else true)
set_option maxHeartbeats 4000000 in
set_option maxRecDepth 100000 in
theorem c_X1_holds (l : Launch) (G : GG) (test : Int32) (value : Int32)  : Met l yX1_holds wsX1_holds { frames := 0, cells := 0, slots := 0, locals := 0 } (roP G [.int test, .int value] (fun H => True)) (roQ (some (.int (b2i (lx_holds test value))))) 0 0 nF := by
  refine Met.ofW (cc := cX1_holds) (maxL := 3) (ret := (some .boolean)) (by decide) rfl ?_
  intro p e s m args below meth c s₁ Bd hml hv
  obtain ⟨rfl, hK, hB⟩ := hv
  have hx := Bd.exec
  have hb := Bd.bytes
  have hr := Bd.returns
  have hts := atoms_spec (ws := wsX1_holds) Bd.pre
  have hown : s.vm.findClass RX1 = some m.cls := findClass_of_methodNamed Bd.named
  have hlocks := Bd.notSynchronized
  have hC : CallFix p m c cX1_holds 3 s _ wsX1_holds RX1 := ⟨hx, hb, hml, hown, hts⟩
  have hl := lv_entry ([.int test, .int value]) (n := 3) (Nat.le_of_ble_eq_true rfl)
  rw [lg_entry_eq]
  generalize (lg_sl ([.int test, .int value]) ++ List.replicate (3 - (lg_sl ([.int test, .int value])).length) Slot.unset).toArray = ls at hl ⊢
  have hl : lv_has ls 3 [(0, .int test), (1, .int value)] := hl
  refine lv_iload_n hx hb dX1_holds_0 rfl (lv_at hl 0 rfl) ?_
  refine lv_sipush (v := 1000) hx hb dX1_holds_1 (by decide +kernel) ?_
  refine lv_irem hx hb dX1_holds_4 (by decide) ?_
  refine lv_istore_n (lv' := [(2, .int (test - test / 1000 * 1000)), (0, .int test), (1, .int value)]) hx hb dX1_holds_5 rfl hl (by decide) rfl (fun ls hl => ?_)
  refine lv_iload_n hx hb dX1_holds_6 rfl (lv_at hl 1 rfl) ?_
  refine lv_sipush (v := 1000) hx hb dX1_holds_7 (by decide +kernel) ?_
  refine lv_idiv hx hb dX1_holds_10 (by decide) ?_
  refine lv_iconst (v := 3) hx hb dX1_holds_11 (by decide) ?_
  refine lv_irem hx hb dX1_holds_12 (by decide) ?_
  rcases Classical.em (((test / 1000) - (test / 1000) / 3 * 3) = 0) with h_1 | h_1
  · refine lv_lookup (off := 27) (tgt := 40) hx hb dX1_holds_13 (by decide) (by rw [h_1]; rfl) (by decide) ?_
    refine lv_iload_n hx hb dX1_holds_40 rfl (lv_at hl 2 rfl) ?_
    refine lv_iload_n hx hb dX1_holds_41 rfl (lv_at hl 0 rfl) ?_
    refine join_at (nL := 3) 50 [(2, .int (test - test / 1000 * 1000)), (0, .int test), (1, .int value)] [.int (b2i (if (test - test / 1000 * 1000) ≤ value then false else true))] (fun ls hl => ?_) (fun J_2 => ?_)
    · exact ro_zret hx hb hr hlocks dX1_holds_50 (by (try unfold lx_holds); (repeat rw [if_pos h_1]); first | done | rfl)
    · refine lv_icmp_ge (tgt := 49) hx hb dX1_holds_42 (by decide) (fun h_3 => ?_) (fun h_3 => ?_)
      · refine lv_iconst (v := 0) hx hb dX1_holds_49 (by decide) ?_
        have hJ := J_2; (repeat rw [if_pos h_3] at hJ)
        first | exact hJ ls (lv_sub hl [0, 1, 2] rfl) | ((repeat rw [if_pos h_3] at hl); (repeat rw [if_pos h_3]); exact hJ ls (lv_sub hl [0, 1, 2] rfl))
      · refine lv_iconst (v := 1) hx hb dX1_holds_45 (by decide) ?_
        refine lv_goto (tgt := 50) hx hb dX1_holds_46 (by decide) ?_
        have hJ := J_2; (repeat rw [if_neg h_3] at hJ)
        first | exact hJ ls (lv_sub hl [0, 1, 2] rfl) | ((repeat rw [if_neg h_3] at hl); (repeat rw [if_neg h_3]); exact hJ ls (lv_sub hl [0, 1, 2] rfl))
  · rcases Classical.em (((test / 1000) - (test / 1000) / 3 * 3) = 1) with h_4 | h_4
    · refine lv_lookup (off := 38) (tgt := 51) hx hb dX1_holds_13 (by decide) ((lv_osw h_1 (by decide)).trans (by rw [h_4]; rfl)) (by decide) ?_
      refine lv_iload_n hx hb dX1_holds_51 rfl (lv_at hl 2 rfl) ?_
      refine lv_iload_n hx hb dX1_holds_52 rfl (lv_at hl 0 rfl) ?_
      refine join_at (nL := 3) 61 [(2, .int (test - test / 1000 * 1000)), (0, .int test), (1, .int value)] [.int (b2i (if value = (test - test / 1000 * 1000) then true else false))] (fun ls hl => ?_) (fun J_5 => ?_)
      · exact ro_zret hx hb hr hlocks dX1_holds_61 (by (try unfold lx_holds); (repeat rw [if_neg h_1]); (repeat rw [if_pos h_4]); first | done | rfl)
      · refine lv_icmp_ne (tgt := 60) hx hb dX1_holds_53 (by decide) (fun h_6 => ?_) (fun h_6 => ?_)
        · refine lv_iconst (v := 0) hx hb dX1_holds_60 (by decide) ?_
          have hJ := J_5; (repeat rw [if_neg h_6] at hJ)
          first | exact hJ ls (lv_sub hl [0, 1, 2] rfl) | ((repeat rw [if_neg h_6] at hl); (repeat rw [if_neg h_6]); exact hJ ls (lv_sub hl [0, 1, 2] rfl))
        · refine lv_iconst (v := 1) hx hb dX1_holds_56 (by decide) ?_
          refine lv_goto (tgt := 61) hx hb dX1_holds_57 (by decide) ?_
          have hJ := J_5; (repeat rw [if_pos h_6] at hJ)
          first | exact hJ ls (lv_sub hl [0, 1, 2] rfl) | ((repeat rw [if_pos h_6] at hl); (repeat rw [if_pos h_6]); exact hJ ls (lv_sub hl [0, 1, 2] rfl))
    · refine lv_lookup (off := 49) (tgt := 62) hx hb dX1_holds_13 (by decide) ((lv_osw h_1 (by decide)).trans ((lv_osw h_4 (by decide)).trans (rfl))) (by decide) ?_
      refine lv_iload_n hx hb dX1_holds_62 rfl (lv_at hl 2 rfl) ?_
      refine lv_iload_n hx hb dX1_holds_63 rfl (lv_at hl 0 rfl) ?_
      refine join_at (nL := 3) 72 [(2, .int (test - test / 1000 * 1000)), (0, .int test), (1, .int value)] [.int (b2i (if value ≤ (test - test / 1000 * 1000) then false else true))] (fun ls hl => ?_) (fun J_7 => ?_)
      · exact ro_zret hx hb hr hlocks dX1_holds_72 (by (try unfold lx_holds); (repeat rw [if_neg h_1]); (repeat rw [if_neg h_4]); first | done | rfl)
      · refine lv_icmp_le (tgt := 71) hx hb dX1_holds_64 (by decide) (fun h_8 => ?_) (fun h_8 => ?_)
        · refine lv_iconst (v := 0) hx hb dX1_holds_71 (by decide) ?_
          have hJ := J_7; (repeat rw [if_pos h_8] at hJ)
          first | exact hJ ls (lv_sub hl [0, 1, 2] rfl) | ((repeat rw [if_pos h_8] at hl); (repeat rw [if_pos h_8]); exact hJ ls (lv_sub hl [0, 1, 2] rfl))
        · refine lv_iconst (v := 1) hx hb dX1_holds_67 (by decide) ?_
          refine lv_goto (tgt := 72) hx hb dX1_holds_68 (by decide) ?_
          have hJ := J_7; (repeat rw [if_neg h_8] at hJ)
          first | exact hJ ls (lv_sub hl [0, 1, 2] rfl) | ((repeat rw [if_neg h_8] at hl); (repeat rw [if_neg h_8]); exact hJ ls (lv_sub hl [0, 1, 2] rfl))
def lx_valueOf (nw : Nat) (x : RwT) (letter asking age : Int32) : Int32 := if letter = 0 then age else if letter = 6 then b2i (if (f_at nw x asking 6) = 0 then false else true) else f_at nw x asking (letter - 1)
set_option maxHeartbeats 4000000 in
set_option maxRecDepth 100000 in
theorem c_X1_valueOf (l : Launch) (G : GG) (a0 b0 nm nw : Nat) (x : RwT) (letter asking age : Int32)  : Met l yX1_valueOf wsX1_valueOf { frames := 1, cells := 0, slots := 0, locals := 22 } (roP G [.int letter, .ref a0, .int asking, .int age] (fun H => RwAt G a0 b0 nm nw x H)) (roQ (some (.int (lx_valueOf nw x letter asking age)))) 0 0 nF := by
  refine Met.ofW (cc := cX1_valueOf) (maxL := 4) (ret := (some .int)) (by decide) rfl ?_
  intro p e s m args below meth c s₁ Bd hml hv
  obtain ⟨rfl, hK, hB⟩ := hv
  have hx := Bd.exec
  have hb := Bd.bytes
  have hr := Bd.returns
  have hts := atoms_spec (ws := wsX1_valueOf) Bd.pre
  have hown : s.vm.findClass RX1 = some m.cls := findClass_of_methodNamed Bd.named
  have hlocks := Bd.notSynchronized
  have hC : CallFix p m c cX1_valueOf 4 s _ wsX1_valueOf RX1 := ⟨hx, hb, hml, hown, hts⟩
  have hl := lv_entry ([.int letter, .ref a0, .int asking, .int age]) (n := 4) (Nat.le_of_ble_eq_true rfl)
  rw [lg_entry_eq]
  generalize (lg_sl ([.int letter, .ref a0, .int asking, .int age]) ++ List.replicate (4 - (lg_sl ([.int letter, .ref a0, .int asking, .int age])).length) Slot.unset).toArray = ls at hl ⊢
  have hl : lv_has ls 4 [(0, .int letter), (1, .ref a0), (2, .int asking), (3, .int age)] := hl
  have f_r := hB
  refine lv_iload_n hx hb dX1_valueOf_0 rfl (lv_at hl 0 rfl) ?_
  refine lv_if_ne (tgt := 6) hx hb dX1_valueOf_1 (by decide) (fun h_1 => ?_) (fun h_1 => ?_)
  · refine lv_iload_n hx hb dX1_valueOf_6 rfl (lv_at hl 0 rfl) ?_
    refine lv_bipush (v := 6) hx hb dX1_valueOf_7 (by decide +kernel) ?_
    refine lv_icmp_ne (tgt := 28) hx hb dX1_valueOf_9 (by decide) (fun h_2 => ?_) (fun h_2 => ?_)
    · refine lv_aload_n hx hb dX1_valueOf_28 rfl (lv_at hl 1 rfl) ?_
      refine lv_iload_n hx hb dX1_valueOf_29 rfl (lv_at hl 2 rfl) ?_
      refine lv_iload_n hx hb dX1_valueOf_30 rfl (lv_at hl 0 rfl) ?_
      refine lv_iconst (v := 1) hx hb dX1_valueOf_31 (by decide) ?_
      refine lv_isub hx hb dX1_valueOf_32 ?_
      refine ro_call (va_runV (As := [.int asking, .int (letter - 1)]) (rest := []) hC (c_X2_at l G a0 b0 nm nw x asking (letter - 1)) (cwV 2 hts gX1_valueOf_X2_at rfl rfl rfl kd_X2_at ⟨Nat.le_of_ble_eq_true rfl, Nat.le_of_ble_eq_true rfl⟩) (ro_preV hK f_r.1 rfl f_r) rfl rfl hl.1 rfl (lv_room (Nat.le_of_ble_eq_true rfl)) dX1_valueOf_33 ⟨Nat.zero_le _, Nat.zero_le _⟩) ?_
      exact ro_iret hx hb hr hlocks dX1_valueOf_36 (by (try unfold lx_valueOf); (repeat rw [if_neg h_1]); (repeat rw [if_neg h_2]); first | done | rfl)
    · refine lv_aload_n hx hb dX1_valueOf_12 rfl (lv_at hl 1 rfl) ?_
      refine lv_iload_n hx hb dX1_valueOf_13 rfl (lv_at hl 2 rfl) ?_
      refine lv_bipush (v := 6) hx hb dX1_valueOf_14 (by decide +kernel) ?_
      refine ro_call (va_runV (As := [.int asking, .int 6]) (rest := []) hC (c_X2_at l G a0 b0 nm nw x asking 6) (cwV 2 hts gX1_valueOf_X2_at rfl rfl rfl kd_X2_at ⟨Nat.le_of_ble_eq_true rfl, Nat.le_of_ble_eq_true rfl⟩) (ro_preV hK f_r.1 rfl f_r) rfl rfl hl.1 rfl (lv_room (Nat.le_of_ble_eq_true rfl)) dX1_valueOf_16 ⟨Nat.zero_le _, Nat.zero_le _⟩) ?_
      refine join_at (nL := 4) 27 [(0, .int letter), (1, .ref a0), (2, .int asking), (3, .int age)] [.int (b2i (if (f_at nw x asking 6) = 0 then false else true))] (fun ls hl => ?_) (fun J_3 => ?_)
      · exact ro_iret hx hb hr hlocks dX1_valueOf_27 (by (try unfold lx_valueOf); (repeat rw [if_neg h_1]); (repeat rw [if_pos h_2]); first | done | rfl)
      · refine lv_if_ne (tgt := 26) hx hb dX1_valueOf_19 (by decide) (fun h_4 => ?_) (fun h_4 => ?_)
        · refine lv_iconst (v := 1) hx hb dX1_valueOf_26 (by decide) ?_
          have hJ := J_3; (repeat rw [if_neg h_4] at hJ)
          first | exact hJ ls (lv_sub hl [0, 1, 2, 3] rfl) | ((repeat rw [if_neg h_4] at hl); (repeat rw [if_neg h_4]); exact hJ ls (lv_sub hl [0, 1, 2, 3] rfl))
        · refine lv_iconst (v := 0) hx hb dX1_valueOf_22 (by decide) ?_
          refine lv_goto (tgt := 27) hx hb dX1_valueOf_23 (by decide) ?_
          have hJ := J_3; (repeat rw [if_pos h_4] at hJ)
          first | exact hJ ls (lv_sub hl [0, 1, 2, 3] rfl) | ((repeat rw [if_pos h_4] at hl); (repeat rw [if_pos h_4]); exact hJ ls (lv_sub hl [0, 1, 2, 3] rfl))
  · refine lv_iload_n hx hb dX1_valueOf_4 rfl (lv_at hl 3 rfl) ?_
    exact ro_iret hx hb hr hlocks dX1_valueOf_5 (by (try unfold lx_valueOf); (repeat rw [if_pos h_1]); first | done | rfl)
theorem i_X1_firstSaid_X1 : ∀ w ∈ wsX10, w ∈ wsX1_firstSaid := fun _ h => List.mem_cons_of_mem _ (List.mem_append_left _ (List.mem_append_right _ h))
theorem k_X1_firstSaid_fieldLink_34 : Cond.fieldLink RX1 34 "SameWater$Law" "stepCount" "I" ∈ wsX1_firstSaid := by decide +kernel
theorem k_X1_firstSaid_fieldLink_24 : Cond.fieldLink RX1 24 "SameWater$Law" "steps" "[I" ∈ wsX1_firstSaid := by decide +kernel
theorem k_X1_firstSaid_constantLong_76 : Cond.constantLong RX1 76 (-2) ∈ wsX1_firstSaid := by decide +kernel
theorem kd_X1_valueOf : yX1_valueOf.cls ≠ "java/lang/invoke/MethodHandle" ∧ yX1_valueOf.cls ≠ "java/lang/invoke/VarHandle" ∧ (parseMethodDescriptor yX1_valueOf.desc).map (fun d => d.parameters.length) = some 4 := by decide +kernel
theorem kd_X1_holds : yX1_holds.cls ≠ "java/lang/invoke/MethodHandle" ∧ yX1_holds.cls ≠ "java/lang/invoke/VarHandle" ∧ (parseMethodDescriptor yX1_holds.desc).map (fun d => d.parameters.length) = some 2 := by decide +kernel
def lx_sayGo (x : LawT) (y : RwT) (asking age : Int32) : Nat → Nat → Int64 → Int32
  | 0, _, _ => (-1)
  | n + 1, k, bits => if 120 ≤ (nI k) then (-1) else if (lSt x) (nI k).toNatClampNeg < 0 then if ((lSt x) (nI k).toNatClampNeg) = (-3) then lx_sayGo x y asking age n (k + 1) (bits ^^^ 1) else if ((lSt x) (nI k).toNatClampNeg) = (-1) then lx_sayGo x y asking age n (k + 1) ((bits >>> ((1 : Int32).toInt64 &&& 63)) &&& ((bits &&& 1) ||| (-2))) else if ((lSt x) (nI k).toNatClampNeg) = (-2) then lx_sayGo x y asking age n (k + 1) ((bits >>> ((1 : Int32).toInt64 &&& 63)) ||| (bits &&& 1)) else if (lg_cmp (bits &&& 1) 1) = 0 then (-10) - ((lSt x) (nI k).toNatClampNeg) else lx_sayGo x y asking age n (k + 1) 0 else lx_sayGo x y asking age n (k + 1) ((bits <<< ((1 : Int32).toInt64 &&& 63)) ||| ((b2i (if (lx_holds ((lSt x) (nI k).toNatClampNeg) (lx_valueOf 7 y (((lSt x) (nI k).toNatClampNeg) / 3000) asking age)) = true then true else false) : Int32).toInt64))
theorem lx_sayGo_0 (x : LawT) (y : RwT) (asking age : Int32) (k : Nat) (bits : Int64) : lx_sayGo x y asking age 0 k bits = ((-1)) := rfl
theorem lx_sayGo_s (x : LawT) (y : RwT) (asking age : Int32) (n k : Nat) (bits : Int64) : lx_sayGo x y asking age (n + 1) k bits = (if 120 ≤ (nI k) then (-1) else if (lSt x) (nI k).toNatClampNeg < 0 then if ((lSt x) (nI k).toNatClampNeg) = (-3) then lx_sayGo x y asking age n (k + 1) (bits ^^^ 1) else if ((lSt x) (nI k).toNatClampNeg) = (-1) then lx_sayGo x y asking age n (k + 1) ((bits >>> ((1 : Int32).toInt64 &&& 63)) &&& ((bits &&& 1) ||| (-2))) else if ((lSt x) (nI k).toNatClampNeg) = (-2) then lx_sayGo x y asking age n (k + 1) ((bits >>> ((1 : Int32).toInt64 &&& 63)) ||| (bits &&& 1)) else if (lg_cmp (bits &&& 1) 1) = 0 then (-10) - ((lSt x) (nI k).toNatClampNeg) else lx_sayGo x y asking age n (k + 1) 0 else lx_sayGo x y asking age n (k + 1) ((bits <<< ((1 : Int32).toInt64 &&& 63)) ||| ((b2i (if (lx_holds ((lSt x) (nI k).toNatClampNeg) (lx_valueOf 7 y (((lSt x) (nI k).toNatClampNeg) / 3000) asking age)) = true then true else false) : Int32).toInt64))) := rfl
def lx_firstSaid (x : LawT) (y : RwT) (asking age : Int32) : Int32 := lx_sayGo x y asking age (lSc x) 0 0
set_option maxHeartbeats 4000000 in
set_option maxRecDepth 100000 in
theorem c_X1_firstSaid (l : Launch) (G : GG) (A : Nat → Nat) (x : LawT) (a0 b0 : Nat) (y : RwT) (asking age : Int32)  : Met l yX1_firstSaid wsX1_firstSaid { frames := 2, cells := 0, slots := 0, locals := 45 } (roP G [.ref (A 0), .ref a0, .int asking, .int age] (fun H => LwAt G A x H ∧ RwAt G a0 b0 16 7 y H)) (roQ (some (.int (lx_firstSaid x y asking age)))) 0 0 nF := by
  refine Met.ofW (cc := cX1_firstSaid) (maxL := 10) (ret := (some .int)) (by decide) rfl ?_
  intro p e s m args below meth c s₁ Bd hml hv
  obtain ⟨rfl, hK, hB⟩ := hv
  have hx := Bd.exec
  have hb := Bd.bytes
  have hr := Bd.returns
  have hts := atoms_spec (ws := wsX1_firstSaid) Bd.pre
  have hown : s.vm.findClass RX1 = some m.cls := findClass_of_methodNamed Bd.named
  have hlocks := Bd.notSynchronized
  have hC : CallFix p m c cX1_firstSaid 10 s _ wsX1_firstSaid RX1 := ⟨hx, hb, hml, hown, hts⟩
  have hl := lv_entry ([.ref (A 0), .ref a0, .int asking, .int age]) (n := 10) (Nat.le_of_ble_eq_true rfl)
  rw [lg_entry_eq]
  generalize (lg_sl ([.ref (A 0), .ref a0, .int asking, .int age]) ++ List.replicate (10 - (lg_sl ([.ref (A 0), .ref a0, .int asking, .int age])).length) Slot.unset).toArray = ls at hl ⊢
  have hl : lv_has ls 10 [(0, .ref (A 0)), (1, .ref a0), (2, .int asking), (3, .int age)] := hl
  obtain ⟨f_l, f_r⟩ := hB
  have hsc : lSc x ≤ 120 := f_l.2.2.2.2
  refine lv_lconst (v := 0) hx hb dX1_firstSaid_0 (by decide) ?_
  refine lv_lstore (lv' := [(4, .long 0), (0, .ref (A 0)), (1, .ref a0), (2, .int asking), (3, .int age)]) hx hb dX1_firstSaid_1 hl (by decide) rfl (fun ls hl => ?_)
  refine lv_iconst (v := 0) hx hb dX1_firstSaid_3 (by decide) ?_
  refine lv_istore (lv' := [(6, .int 0), (4, .long 0), (0, .ref (A 0)), (1, .ref a0), (2, .int asking), (3, .int age)]) hx hb dX1_firstSaid_4 hl (by decide) rfl (fun ls hl => ?_)
  refine loop_at (nL := 10) (α := Nat × Int64) (fun a9 => [(0, .ref (A 0)), (1, .ref a0), (2, .int asking), (3, .int age), (4, .long (a9.2)), (6, .int (nI (a9.1)))]) (fun a9 => a9.1 ≤ lSc x ∧ lx_sayGo x y asking age ((lSc x) - a9.1) a9.1 a9.2 = lx_sayGo x y asking age (lSc x) 0 0) (fun a9 => lSc x - a9.1) (0, 0) ⟨(by first | exact Nat.zero_le _ | decide | omega), rfl⟩ (lv_sub hl [2, 3, 4, 5, 1, 0] rfl) (fun a9 hI9 ih_k ls hl => ?_)
  obtain ⟨k, bits⟩ := a9
  obtain ⟨hk_k, hV⟩ : k ≤ lSc x ∧ lx_sayGo x y asking age ((lSc x) - k) k bits = lx_sayGo x y asking age (lSc x) 0 0 := hI9
  have hl : lv_has ls 10 [(0, .ref (A 0)), (1, .ref a0), (2, .int asking), (3, .int age), (4, .long bits), (6, .int (nI k))] := hl
  refine lv_iload hx hb dX1_firstSaid_6 (lv_at hl 5 rfl) ?_
  refine lv_aload_n hx hb dX1_firstSaid_8 rfl (lv_at hl 0 rfl) ?_
  refine r_get (C := RX1) (T := TX1) (N := 8) hx hb hts i_X1_firstSaid_X1 hown hK f_l.1 rfl 7 (by decide) k_X1_firstSaid_fieldLink_34 rfl rfl dX1_firstSaid_9 ?_
  refine lv_icmp_ge (tgt := 157) hx hb dX1_firstSaid_12 (by decide) (fun h_1 => ?_) (fun h_1 => ?_)
  · have hN_k : k = lSc x := ge_ex (N := lSc x) rfl h_1 hk_k (by omega)
    subst hN_k
    rw [Nat.sub_self] at hV
    refine lv_iconst (v := (-1)) hx hb dX1_firstSaid_157 (by decide) ?_
    exact ro_iret hx hb hr hlocks dX1_firstSaid_158 (by (try unfold lx_firstSaid); rw [← hV, lx_sayGo_0]; first | done | rfl)
  · have hlt_k : k < lSc x := ge_in (N := lSc x) rfl h_1 hk_k (by omega)
    obtain ⟨n9, hn9⟩ : ∃ n9, (lSc x) - k = n9 + 1 := ⟨(lSc x) - k - 1, by omega⟩
    rw [hn9] at hV
    refine lv_iload hx hb dX1_firstSaid_15 (lv_at hl 5 rfl) ?_
    refine lv_bipush (v := 120) hx hb dX1_firstSaid_17 (by decide +kernel) ?_
    refine lv_icmp_ge (tgt := 157) hx hb dX1_firstSaid_19 (by decide) (fun h_2 => ?_) (fun h_2 => ?_)
    · refine lv_iconst (v := (-1)) hx hb dX1_firstSaid_157 (by decide) ?_
      exact ro_iret hx hb hr hlocks dX1_firstSaid_158 (by (try unfold lx_firstSaid); rw [← hV, lx_sayGo_s]; (repeat rw [if_neg h_1]); (repeat rw [if_pos h_2]); first | done | rfl)
    · refine lv_aload_n hx hb dX1_firstSaid_22 rfl (lv_at hl 0 rfl) ?_
      refine r_get (C := RX1) (T := TX1) (N := 8) hx hb hts i_X1_firstSaid_X1 hown hK f_l.1 rfl 6 (by decide) k_X1_firstSaid_fieldLink_24 rfl rfl dX1_firstSaid_23 ?_
      refine lv_iload hx hb dX1_firstSaid_26 (lv_at hl 5 rfl) ?_
      refine r_iald hx hb hK f_l.2.2.2.1 (vp_in_nI (by omega) (by decide)) dX1_firstSaid_28 ?_
      refine lv_istore (lv' := [(7, .int ((lSt x) (nI k).toNatClampNeg)), (0, .ref (A 0)), (1, .ref a0), (2, .int asking), (3, .int age), (4, .long bits), (6, .int (nI k))]) hx hb dX1_firstSaid_29 hl (by decide) rfl (fun ls hl => ?_)
      refine lv_lload hx hb dX1_firstSaid_31 (lv_at hl 5 rfl) ?_
      refine lv_lconst (v := 1) hx hb dX1_firstSaid_33 (by decide) ?_
      refine lv_land hx hb dX1_firstSaid_34 ?_
      refine lv_lstore (lv' := [(8, .long (bits &&& 1)), (7, .int ((lSt x) (nI k).toNatClampNeg)), (0, .ref (A 0)), (1, .ref a0), (2, .int asking), (3, .int age), (4, .long bits), (6, .int (nI k))]) hx hb dX1_firstSaid_35 hl (by decide) rfl (fun ls hl => ?_)
      refine lv_iload hx hb dX1_firstSaid_37 (lv_at hl 1 rfl) ?_
      refine lv_if_lt (tgt := 78) hx hb dX1_firstSaid_39 (by decide) (fun h_3 => ?_) (fun h_3 => ?_)
      · refine lv_iload hx hb dX1_firstSaid_78 (lv_at hl 1 rfl) ?_
        refine lv_bipush (v := (-3)) hx hb dX1_firstSaid_80 (by decide +kernel) ?_
        refine lv_icmp_ne (tgt := 94) hx hb dX1_firstSaid_82 (by decide) (fun h_4 => ?_) (fun h_4 => ?_)
        · refine lv_iload hx hb dX1_firstSaid_94 (lv_at hl 1 rfl) ?_
          refine lv_iconst (v := (-1)) hx hb dX1_firstSaid_96 (by decide) ?_
          refine lv_icmp_ne (tgt := 116) hx hb dX1_firstSaid_97 (by decide) (fun h_5 => ?_) (fun h_5 => ?_)
          · refine lv_iload hx hb dX1_firstSaid_116 (lv_at hl 1 rfl) ?_
            refine lv_bipush (v := (-2)) hx hb dX1_firstSaid_118 (by decide +kernel) ?_
            refine lv_icmp_ne (tgt := 135) hx hb dX1_firstSaid_120 (by decide) (fun h_6 => ?_) (fun h_6 => ?_)
            · refine lv_lload hx hb dX1_firstSaid_135 (lv_at hl 0 rfl) ?_
              refine lv_lconst (v := 1) hx hb dX1_firstSaid_137 (by decide) ?_
              refine W.lcmp hx hb dX1_firstSaid_138 ?_
              refine lv_if_ne (tgt := 148) hx hb dX1_firstSaid_139 (by decide) (fun h_7 => ?_) (fun h_7 => ?_)
              · refine lv_lconst (v := 0) hx hb dX1_firstSaid_148 (by decide) ?_
                refine lv_lstore (lv' := [(4, .long 0), (8, .long (bits &&& 1)), (7, .int ((lSt x) (nI k).toNatClampNeg)), (0, .ref (A 0)), (1, .ref a0), (2, .int asking), (3, .int age), (6, .int (nI k))]) hx hb dX1_firstSaid_149 hl (by decide) rfl (fun ls hl => ?_)
                refine lv_iinc (v := (nI k) + 1) (lv' := [(6, .int ((nI k) + 1)), (4, .long 0), (8, .long (bits &&& 1)), (7, .int ((lSt x) (nI k).toNatClampNeg)), (0, .ref (A 0)), (1, .ref a0), (2, .int asking), (3, .int age)]) hx hb dX1_firstSaid_151 hl (k := 7) rfl rfl (by decide) rfl (fun ls hl => ?_)
                refine lv_goto (tgt := 6) hx hb dX1_firstSaid_154 (by decide) ?_
                have hE : lx_sayGo x y asking age n9 (k + 1) 0 = lx_sayGo x y asking age (lSc x) 0 0 := (by rw [← hV, lx_sayGo_s]; (repeat rw [if_neg h_2]); (repeat rw [if_pos h_3]); (repeat rw [if_neg h_4]); (repeat rw [if_neg h_5]); (repeat rw [if_neg h_6]); (repeat rw [if_neg h_7]); first | done | rfl)
                refine ih_k ((k + 1, 0)) ⟨(show k + 1 ≤ lSc x by omega), (by show lx_sayGo x y asking age ((lSc x) - (k + 1)) (k + 1) 0 = _; rw [show (lSc x) - (k + 1) = n9 by omega]; exact hE)⟩ (show (lSc x) - (k + 1) < (lSc x) - k by omega) ls ?_
                show lv_has ls 10 [(0, .ref (A 0)), (1, .ref a0), (2, .int asking), (3, .int age), (4, .long 0), (6, .int (nI (k + 1)))]
                rw [nI_succ]
                exact lv_sub hl [4, 5, 6, 7, 1, 0] rfl
              · refine lv_bipush (v := (-10)) hx hb dX1_firstSaid_142 (by decide +kernel) ?_
                refine lv_iload hx hb dX1_firstSaid_144 (lv_at hl 1 rfl) ?_
                refine lv_isub hx hb dX1_firstSaid_146 ?_
                exact ro_iret hx hb hr hlocks dX1_firstSaid_147 (by (try unfold lx_firstSaid); rw [← hV, lx_sayGo_s]; (repeat rw [if_neg h_1]); (repeat rw [if_neg h_2]); (repeat rw [if_pos h_3]); (repeat rw [if_neg h_4]); (repeat rw [if_neg h_5]); (repeat rw [if_neg h_6]); (repeat rw [if_pos h_7]); first | done | rfl)
            · refine lv_lload hx hb dX1_firstSaid_123 (lv_at hl 6 rfl) ?_
              refine lv_iconst (v := 1) hx hb dX1_firstSaid_125 (by decide) ?_
              refine lv_lshr (v := bits >>> ((1 : Int32).toInt64 &&& 63)) hx hb dX1_firstSaid_126 rfl ?_
              refine lv_lload hx hb dX1_firstSaid_127 (lv_at hl 0 rfl) ?_
              refine lv_lor hx hb dX1_firstSaid_129 ?_
              refine lv_lstore (lv' := [(4, .long ((bits >>> ((1 : Int32).toInt64 &&& 63)) ||| (bits &&& 1))), (8, .long (bits &&& 1)), (7, .int ((lSt x) (nI k).toNatClampNeg)), (0, .ref (A 0)), (1, .ref a0), (2, .int asking), (3, .int age), (6, .int (nI k))]) hx hb dX1_firstSaid_130 hl (by decide) rfl (fun ls hl => ?_)
              refine lv_goto (tgt := 151) hx hb dX1_firstSaid_132 (by decide) ?_
              refine lv_iinc (v := (nI k) + 1) (lv' := [(6, .int ((nI k) + 1)), (4, .long ((bits >>> ((1 : Int32).toInt64 &&& 63)) ||| (bits &&& 1))), (8, .long (bits &&& 1)), (7, .int ((lSt x) (nI k).toNatClampNeg)), (0, .ref (A 0)), (1, .ref a0), (2, .int asking), (3, .int age)]) hx hb dX1_firstSaid_151 hl (k := 7) rfl rfl (by decide) rfl (fun ls hl => ?_)
              refine lv_goto (tgt := 6) hx hb dX1_firstSaid_154 (by decide) ?_
              have hE : lx_sayGo x y asking age n9 (k + 1) ((bits >>> ((1 : Int32).toInt64 &&& 63)) ||| (bits &&& 1)) = lx_sayGo x y asking age (lSc x) 0 0 := (by rw [← hV, lx_sayGo_s]; (repeat rw [if_neg h_2]); (repeat rw [if_pos h_3]); (repeat rw [if_neg h_4]); (repeat rw [if_neg h_5]); (repeat rw [if_pos h_6]); first | done | rfl)
              refine ih_k ((k + 1, (bits >>> ((1 : Int32).toInt64 &&& 63)) ||| (bits &&& 1))) ⟨(show k + 1 ≤ lSc x by omega), (by show lx_sayGo x y asking age ((lSc x) - (k + 1)) (k + 1) ((bits >>> ((1 : Int32).toInt64 &&& 63)) ||| (bits &&& 1)) = _; rw [show (lSc x) - (k + 1) = n9 by omega]; exact hE)⟩ (show (lSc x) - (k + 1) < (lSc x) - k by omega) ls ?_
              show lv_has ls 10 [(0, .ref (A 0)), (1, .ref a0), (2, .int asking), (3, .int age), (4, .long ((bits >>> ((1 : Int32).toInt64 &&& 63)) ||| (bits &&& 1))), (6, .int (nI (k + 1)))]
              rw [nI_succ]
              exact lv_sub hl [4, 5, 6, 7, 1, 0] rfl
          · refine lv_lload hx hb dX1_firstSaid_100 (lv_at hl 6 rfl) ?_
            refine lv_iconst (v := 1) hx hb dX1_firstSaid_102 (by decide) ?_
            refine lv_lshr (v := bits >>> ((1 : Int32).toInt64 &&& 63)) hx hb dX1_firstSaid_103 rfl ?_
            refine lv_lload hx hb dX1_firstSaid_104 (lv_at hl 0 rfl) ?_
            refine lv_ldc2 (v := (-2)) hx hb hown (hts _ k_X1_firstSaid_constantLong_76) dX1_firstSaid_106 ?_
            refine lv_lor hx hb dX1_firstSaid_109 ?_
            refine lv_land hx hb dX1_firstSaid_110 ?_
            refine lv_lstore (lv' := [(4, .long ((bits >>> ((1 : Int32).toInt64 &&& 63)) &&& ((bits &&& 1) ||| (-2)))), (8, .long (bits &&& 1)), (7, .int ((lSt x) (nI k).toNatClampNeg)), (0, .ref (A 0)), (1, .ref a0), (2, .int asking), (3, .int age), (6, .int (nI k))]) hx hb dX1_firstSaid_111 hl (by decide) rfl (fun ls hl => ?_)
            refine lv_goto (tgt := 151) hx hb dX1_firstSaid_113 (by decide) ?_
            refine lv_iinc (v := (nI k) + 1) (lv' := [(6, .int ((nI k) + 1)), (4, .long ((bits >>> ((1 : Int32).toInt64 &&& 63)) &&& ((bits &&& 1) ||| (-2)))), (8, .long (bits &&& 1)), (7, .int ((lSt x) (nI k).toNatClampNeg)), (0, .ref (A 0)), (1, .ref a0), (2, .int asking), (3, .int age)]) hx hb dX1_firstSaid_151 hl (k := 7) rfl rfl (by decide) rfl (fun ls hl => ?_)
            refine lv_goto (tgt := 6) hx hb dX1_firstSaid_154 (by decide) ?_
            have hE : lx_sayGo x y asking age n9 (k + 1) ((bits >>> ((1 : Int32).toInt64 &&& 63)) &&& ((bits &&& 1) ||| (-2))) = lx_sayGo x y asking age (lSc x) 0 0 := (by rw [← hV, lx_sayGo_s]; (repeat rw [if_neg h_2]); (repeat rw [if_pos h_3]); (repeat rw [if_neg h_4]); (repeat rw [if_pos h_5]); first | done | rfl)
            refine ih_k ((k + 1, (bits >>> ((1 : Int32).toInt64 &&& 63)) &&& ((bits &&& 1) ||| (-2)))) ⟨(show k + 1 ≤ lSc x by omega), (by show lx_sayGo x y asking age ((lSc x) - (k + 1)) (k + 1) ((bits >>> ((1 : Int32).toInt64 &&& 63)) &&& ((bits &&& 1) ||| (-2))) = _; rw [show (lSc x) - (k + 1) = n9 by omega]; exact hE)⟩ (show (lSc x) - (k + 1) < (lSc x) - k by omega) ls ?_
            show lv_has ls 10 [(0, .ref (A 0)), (1, .ref a0), (2, .int asking), (3, .int age), (4, .long ((bits >>> ((1 : Int32).toInt64 &&& 63)) &&& ((bits &&& 1) ||| (-2)))), (6, .int (nI (k + 1)))]
            rw [nI_succ]
            exact lv_sub hl [4, 5, 6, 7, 1, 0] rfl
        · refine lv_lload hx hb dX1_firstSaid_85 (lv_at hl 6 rfl) ?_
          refine lv_lconst (v := 1) hx hb dX1_firstSaid_87 (by decide) ?_
          refine lv_lxor hx hb dX1_firstSaid_88 ?_
          refine lv_lstore (lv' := [(4, .long (bits ^^^ 1)), (8, .long (bits &&& 1)), (7, .int ((lSt x) (nI k).toNatClampNeg)), (0, .ref (A 0)), (1, .ref a0), (2, .int asking), (3, .int age), (6, .int (nI k))]) hx hb dX1_firstSaid_89 hl (by decide) rfl (fun ls hl => ?_)
          refine lv_goto (tgt := 151) hx hb dX1_firstSaid_91 (by decide) ?_
          refine lv_iinc (v := (nI k) + 1) (lv' := [(6, .int ((nI k) + 1)), (4, .long (bits ^^^ 1)), (8, .long (bits &&& 1)), (7, .int ((lSt x) (nI k).toNatClampNeg)), (0, .ref (A 0)), (1, .ref a0), (2, .int asking), (3, .int age)]) hx hb dX1_firstSaid_151 hl (k := 7) rfl rfl (by decide) rfl (fun ls hl => ?_)
          refine lv_goto (tgt := 6) hx hb dX1_firstSaid_154 (by decide) ?_
          have hE : lx_sayGo x y asking age n9 (k + 1) (bits ^^^ 1) = lx_sayGo x y asking age (lSc x) 0 0 := (by rw [← hV, lx_sayGo_s]; (repeat rw [if_neg h_2]); (repeat rw [if_pos h_3]); (repeat rw [if_pos h_4]); first | done | rfl)
          refine ih_k ((k + 1, bits ^^^ 1)) ⟨(show k + 1 ≤ lSc x by omega), (by show lx_sayGo x y asking age ((lSc x) - (k + 1)) (k + 1) (bits ^^^ 1) = _; rw [show (lSc x) - (k + 1) = n9 by omega]; exact hE)⟩ (show (lSc x) - (k + 1) < (lSc x) - k by omega) ls ?_
          show lv_has ls 10 [(0, .ref (A 0)), (1, .ref a0), (2, .int asking), (3, .int age), (4, .long (bits ^^^ 1)), (6, .int (nI (k + 1)))]
          rw [nI_succ]
          exact lv_sub hl [4, 5, 6, 7, 1, 0] rfl
      · refine lv_lload hx hb dX1_firstSaid_42 (lv_at hl 6 rfl) ?_
        refine lv_iconst (v := 1) hx hb dX1_firstSaid_44 (by decide) ?_
        refine lv_lshl (v := bits <<< ((1 : Int32).toInt64 &&& 63)) hx hb dX1_firstSaid_45 rfl ?_
        refine lv_iload hx hb dX1_firstSaid_46 (lv_at hl 1 rfl) ?_
        refine lv_iload hx hb dX1_firstSaid_48 (lv_at hl 1 rfl) ?_
        refine lv_sipush (v := 3000) hx hb dX1_firstSaid_50 (by decide +kernel) ?_
        refine lv_idiv hx hb dX1_firstSaid_53 (by decide) ?_
        refine lv_aload_n hx hb dX1_firstSaid_54 rfl (lv_at hl 3 rfl) ?_
        refine lv_iload_n hx hb dX1_firstSaid_55 rfl (lv_at hl 4 rfl) ?_
        refine lv_iload_n hx hb dX1_firstSaid_56 rfl (lv_at hl 5 rfl) ?_
        refine ro_call (va_runS (As := [.int (((lSt x) (nI k).toNatClampNeg) / 3000), .ref a0, .int asking, .int age]) (rest := [.int ((lSt x) (nI k).toNatClampNeg), .long (bits <<< ((1 : Int32).toInt64 &&& 63))]) hC (c_X1_valueOf l G a0 b0 16 7 y (((lSt x) (nI k).toNatClampNeg) / 3000) asking age) (va_cwS 4 hts gX1_firstSaid_X1_valueOf rfl rfl rfl kd_X1_valueOf ⟨Nat.le_of_ble_eq_true rfl, Nat.le_of_ble_eq_true rfl⟩) (ro_preS hK f_r) rfl rfl hl.1 rfl (lv_room (Nat.le_of_ble_eq_true rfl)) dX1_firstSaid_57 ⟨Nat.zero_le _, Nat.zero_le _⟩) ?_
        refine ro_call (va_runS (As := [.int ((lSt x) (nI k).toNatClampNeg), .int (lx_valueOf 7 y (((lSt x) (nI k).toNatClampNeg) / 3000) asking age)]) (rest := [.long (bits <<< ((1 : Int32).toInt64 &&& 63))]) hC (c_X1_holds l G ((lSt x) (nI k).toNatClampNeg) (lx_valueOf 7 y (((lSt x) (nI k).toNatClampNeg) / 3000) asking age)) (va_cwS 2 hts gX1_firstSaid_X1_holds rfl rfl rfl kd_X1_holds ⟨Nat.le_of_ble_eq_true rfl, Nat.le_of_ble_eq_true rfl⟩) (ro_preS hK trivial) rfl rfl hl.1 rfl (lv_room (Nat.le_of_ble_eq_true rfl)) dX1_firstSaid_60 ⟨Nat.zero_le _, Nat.zero_le _⟩) ?_
        refine join_at (nL := 10) 71 [(8, .long (bits &&& 1)), (7, .int ((lSt x) (nI k).toNatClampNeg)), (0, .ref (A 0)), (1, .ref a0), (2, .int asking), (3, .int age), (4, .long bits), (6, .int (nI k))] [.int (b2i (if (lx_holds ((lSt x) (nI k).toNatClampNeg) (lx_valueOf 7 y (((lSt x) (nI k).toNatClampNeg) / 3000) asking age)) = true then true else false)), .long (bits <<< ((1 : Int32).toInt64 &&& 63))] (fun ls hl => ?_) (fun J_8 => ?_)
        · refine lv_i2l (v := (b2i (if (lx_holds ((lSt x) (nI k).toNatClampNeg) (lx_valueOf 7 y (((lSt x) (nI k).toNatClampNeg) / 3000) asking age)) = true then true else false) : Int32).toInt64) hx hb dX1_firstSaid_71 rfl ?_
          refine lv_lor hx hb dX1_firstSaid_72 ?_
          refine lv_lstore (lv' := [(4, .long ((bits <<< ((1 : Int32).toInt64 &&& 63)) ||| ((b2i (if (lx_holds ((lSt x) (nI k).toNatClampNeg) (lx_valueOf 7 y (((lSt x) (nI k).toNatClampNeg) / 3000) asking age)) = true then true else false) : Int32).toInt64))), (8, .long (bits &&& 1)), (7, .int ((lSt x) (nI k).toNatClampNeg)), (0, .ref (A 0)), (1, .ref a0), (2, .int asking), (3, .int age), (6, .int (nI k))]) hx hb dX1_firstSaid_73 hl (by decide) rfl (fun ls hl => ?_)
          refine lv_goto (tgt := 151) hx hb dX1_firstSaid_75 (by decide) ?_
          refine lv_iinc (v := (nI k) + 1) (lv' := [(6, .int ((nI k) + 1)), (4, .long ((bits <<< ((1 : Int32).toInt64 &&& 63)) ||| ((b2i (if (lx_holds ((lSt x) (nI k).toNatClampNeg) (lx_valueOf 7 y (((lSt x) (nI k).toNatClampNeg) / 3000) asking age)) = true then true else false) : Int32).toInt64))), (8, .long (bits &&& 1)), (7, .int ((lSt x) (nI k).toNatClampNeg)), (0, .ref (A 0)), (1, .ref a0), (2, .int asking), (3, .int age)]) hx hb dX1_firstSaid_151 hl (k := 7) rfl rfl (by decide) rfl (fun ls hl => ?_)
          refine lv_goto (tgt := 6) hx hb dX1_firstSaid_154 (by decide) ?_
          have hE : lx_sayGo x y asking age n9 (k + 1) ((bits <<< ((1 : Int32).toInt64 &&& 63)) ||| ((b2i (if (lx_holds ((lSt x) (nI k).toNatClampNeg) (lx_valueOf 7 y (((lSt x) (nI k).toNatClampNeg) / 3000) asking age)) = true then true else false) : Int32).toInt64)) = lx_sayGo x y asking age (lSc x) 0 0 := (by rw [← hV, lx_sayGo_s]; (repeat rw [if_neg h_2]); (repeat rw [if_neg h_3]); first | done | rfl)
          refine ih_k ((k + 1, (bits <<< ((1 : Int32).toInt64 &&& 63)) ||| ((b2i (if (lx_holds ((lSt x) (nI k).toNatClampNeg) (lx_valueOf 7 y (((lSt x) (nI k).toNatClampNeg) / 3000) asking age)) = true then true else false) : Int32).toInt64))) ⟨(show k + 1 ≤ lSc x by omega), (by show lx_sayGo x y asking age ((lSc x) - (k + 1)) (k + 1) ((bits <<< ((1 : Int32).toInt64 &&& 63)) ||| ((b2i (if (lx_holds ((lSt x) (nI k).toNatClampNeg) (lx_valueOf 7 y (((lSt x) (nI k).toNatClampNeg) / 3000) asking age)) = true then true else false) : Int32).toInt64)) = _; rw [show (lSc x) - (k + 1) = n9 by omega]; exact hE)⟩ (show (lSc x) - (k + 1) < (lSc x) - k by omega) ls ?_
          show lv_has ls 10 [(0, .ref (A 0)), (1, .ref a0), (2, .int asking), (3, .int age), (4, .long ((bits <<< ((1 : Int32).toInt64 &&& 63)) ||| ((b2i (if (lx_holds ((lSt x) (nI k).toNatClampNeg) (lx_valueOf 7 y (((lSt x) (nI k).toNatClampNeg) / 3000) asking age)) = true then true else false) : Int32).toInt64))), (6, .int (nI (k + 1)))]
          rw [nI_succ]
          exact lv_sub hl [4, 5, 6, 7, 1, 0] rfl
        · refine bz_eq (tgt := 70) hx hb dX1_firstSaid_63 (by decide) (fun h_9 => ?_) (fun h_9 => ?_)
          · refine lv_iconst (v := 0) hx hb dX1_firstSaid_70 (by decide) ?_
            have hJ := J_8; (repeat rw [if_neg h_9] at hJ)
            first | exact hJ ls (lv_sub hl [0, 1, 2, 3, 4, 5, 6, 7] rfl) | ((repeat rw [if_neg h_9] at hl); (repeat rw [if_neg h_9]); exact hJ ls (lv_sub hl [0, 1, 2, 3, 4, 5, 6, 7] rfl))
          · refine lv_iconst (v := 1) hx hb dX1_firstSaid_66 (by decide) ?_
            refine lv_goto (tgt := 71) hx hb dX1_firstSaid_67 (by decide) ?_
            have hJ := J_8; (repeat rw [if_pos h_9] at hJ)
            first | exact hJ ls (lv_sub hl [0, 1, 2, 3, 4, 5, 6, 7] rfl) | ((repeat rw [if_pos h_9] at hl); (repeat rw [if_pos h_9]); exact hJ ls (lv_sub hl [0, 1, 2, 3, 4, 5, 6, 7] rfl))

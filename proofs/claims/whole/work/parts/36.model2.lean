theorem in_le {v lo hi : Int32} (h : r_in v lo hi = true) : lo.toInt ≤ v.toInt ∧ v.toInt ≤ hi.toInt := by
  unfold r_in at h
  split at h
  · cases h
  · split at h
    · cases h
    · rename_i h1 h2
      exact ⟨Int32.le_iff_toInt_le.mp (Int32.not_lt.mp h1), Int32.le_iff_toInt_le.mp (Int32.not_lt.mp h2)⟩
theorem in_ib {v lo hi : Int32} {a b : Int} (h : r_in v lo hi = true) (ha : lo.toInt = a) (hb : hi.toInt = b) : ib a b v := by
  have := in_le h
  exact ⟨by omega, by omega⟩
theorem cnt_ib {s : Nat → Int32} (hI : mI s) {k : Nat} {m : Int} {c : Int32} (hk : (k, k, 0, m) ∈ mRg) (hm : m ≤ 1000) (h : r_in c 0 (s k - 1) = true) : ib 0 (m - 1) c := by
  have h0 : ib 0 m (s k) := hI k _ hk (Nat.le_refl _) (Nat.le_refl _)
  have h1 : ib (0 - 1) (m - 1) (s k - 1) := ib_sub h0 (ib_nI (n := 1) (by decide)) (by decide) (by have h9 : m - ((1 : Nat) : Int) ≤ 999 := (by omega); exact Int.lt_of_le_of_lt h9 (by decide))
  have h2 := in_le h
  have h3 : (0 : Int32).toInt = 0 := rfl
  exact ⟨by omega, Int.le_trans h2.2 h1.2⟩
theorem isChild_ib {x : MT} {c : Int32} (hI : mI (mS x)) (h : r_isChild x c = true) : ib 0 7 c := cnt_ib (m := 8) hI (by decide) (by decide) h
theorem isAsking_ib {x : MT} {c : Int32} (hI : mI (mS x)) (h : r_isAsking x c = true) : ib 0 15 c := cnt_ib (m := 16) hI (by decide) (by decide) h
theorem isAnswer_ib {x : MT} {c : Int32} (hI : mI (mS x)) (h : r_isAnswer x c = true) : ib 0 39 c := cnt_ib (m := 40) hI (by decide) (by decide) h
theorem isLaw_ib {x : MT} {c : Int32} (hI : mI (mS x)) (h : r_isLaw x c = true) : ib 0 7 c := cnt_ib (m := 8) hI (by decide) (by decide) h
theorem isStuff_ib {c : Int32} (h : r_isStuff c = true) : ib 0 3 c := in_ib h rfl rfl
theorem i_X6_age_X6 : ∀ w ∈ wsX60, w ∈ wsX6_age := fun _ h => List.mem_cons_of_mem _ (List.mem_append_right _ h)
theorem k_X6_age_fieldLink_9 : Cond.fieldLink RX6 9 "SameWaterModel" "s" "[I" ∈ wsX6_age := by decide +kernel
theorem kd_X6_isChild : yX6_isChild.cls = RX6 ∧ yX6_isChild.cls ≠ "java/lang/invoke/MethodHandle" ∧ yX6_isChild.cls ≠ "java/lang/invoke/VarHandle" ∧ (parseMethodDescriptor yX6_isChild.desc).map (fun d => d.parameters.length) = some 1 := by decide +kernel
def r_age (x : MT) (cc : Int32) : Int32 := if (r_isChild x cc) = true then (mS x) (130 + cc).toNatClampNeg else (-1)
set_option maxHeartbeats 4000000 in
set_option maxRecDepth 100000 in
theorem c_X6_age (l : Launch) (G : GG) (M : Nat → Nat) (x : MT) (cc : Int32)  (hI : mI (mS x)) : Met l yX6_age wsX6_age { frames := 2, cells := 0, slots := 0, locals := 43 } (roP G [.ref (M 0), .int cc] (fun H => MAt G M x H)) (roQ (some (.int (r_age x cc)))) 0 0 nF := by
  refine Met.ofW (cc := cX6_age) (maxL := 2) (ret := (some .int)) (by decide) rfl ?_
  intro p e s m args below meth c s₁ Bd hml hv
  obtain ⟨rfl, hK, hB⟩ := hv
  have hx := Bd.exec
  have hb := Bd.bytes
  have hr := Bd.returns
  have hts := atoms_spec (ws := wsX6_age) Bd.pre
  have hown : s.vm.findClass RX6 = some m.cls := findClass_of_methodNamed Bd.named
  have hlocks := Bd.notSynchronized
  have hC : CallFix p m c cX6_age 2 s _ wsX6_age RX6 := ⟨hx, hb, hml, hown, hts⟩
  have hl := lv_entry ([.ref (M 0), .int cc]) (n := 2) (Nat.le_of_ble_eq_true rfl)
  rw [lg_entry_eq]
  generalize (lg_sl ([.ref (M 0), .int cc]) ++ List.replicate (2 - (lg_sl ([.ref (M 0), .int cc])).length) Slot.unset).toArray = ls at hl ⊢
  have hl : lv_has ls 2 [(0, .ref (M 0)), (1, .int cc)] := hl
  refine lv_aload_n hx hb dX6_age_0 rfl (lv_at hl 0 rfl) ?_
  refine lv_iload_n hx hb dX6_age_1 rfl (lv_at hl 1 rfl) ?_
  refine ro_call (va_runV (As := [.int cc]) (rest := []) hC (c_X6_isChild l G M x cc) (cwV 1 hts gX6_age_X6_isChild rfl rfl rfl kd_X6_isChild ⟨Nat.le_of_ble_eq_true rfl, Nat.le_of_ble_eq_true rfl⟩) (ro_preV hK hB.1 rfl hB) rfl rfl hl.1 rfl (lv_room (Nat.le_of_ble_eq_true rfl)) dX6_age_2 ⟨Nat.zero_le _, Nat.zero_le _⟩) ?_
  refine join_at (nL := 2) 22 [(0, .ref (M 0)), (1, .int cc)] [.int (if (r_isChild x cc) = true then (mS x) (130 + cc).toNatClampNeg else (-1))] (fun ls hl => ?_) (fun J_1 => ?_)
  · exact ro_iret hx hb hr hlocks dX6_age_22 rfl
  · refine bz_eq (tgt := 21) hx hb dX6_age_5 (by decide) (fun h_2 => ?_) (fun h_2 => ?_)
    · refine lv_iconst (v := (-1)) hx hb dX6_age_21 (by decide) ?_
      have hJ := J_1; (repeat rw [if_neg h_2] at hJ)
      first | exact hJ ls (lv_sub hl [0, 1] rfl) | ((repeat rw [if_neg h_2] at hl); (repeat rw [if_neg h_2]); exact hJ ls (lv_sub hl [0, 1] rfl))
    · refine lv_aload_n hx hb dX6_age_8 rfl (lv_at hl 0 rfl) ?_
      refine r_get (C := RX6) (T := TX6) (N := 18) hx hb hts i_X6_age_X6 hown hK hB.1 rfl 1 (by decide) k_X6_age_fieldLink_9 rfl rfl dX6_age_9 ?_
      refine lv_sipush (v := 130) hx hb dX6_age_12 (by decide +kernel) ?_
      refine lv_iload_n hx hb dX6_age_15 rfl (lv_at hl 1 rfl) ?_
      refine lv_iadd hx hb dX6_age_16 ?_
      refine r_iald hx hb hK hB.2.1 (vp_ib (lo := 130) (hi := 137) (ib_add (ib_nI (n := 130) (by decide)) (isChild_ib hI h_2) (by decide) (by decide)) (by decide) (by decide)) dX6_age_17 ?_
      refine lv_goto (tgt := 22) hx hb dX6_age_18 (by decide) ?_
      have hJ := J_1; (repeat rw [if_pos h_2] at hJ)
      first | exact hJ ls (lv_sub hl [0, 1] rfl) | ((repeat rw [if_pos h_2] at hl); (repeat rw [if_pos h_2]); exact hJ ls (lv_sub hl [0, 1] rfl))
theorem i_X6_of_X6 : ∀ w ∈ wsX60, w ∈ wsX6_of := fun _ h => List.mem_cons_of_mem _ (List.mem_append_right _ h)
theorem k_X6_of_fieldLink_9 : Cond.fieldLink RX6 9 "SameWaterModel" "s" "[I" ∈ wsX6_of := by decide +kernel
theorem kd_X6_isAsking : yX6_isAsking.cls = RX6 ∧ yX6_isAsking.cls ≠ "java/lang/invoke/MethodHandle" ∧ yX6_isAsking.cls ≠ "java/lang/invoke/VarHandle" ∧ (parseMethodDescriptor yX6_isAsking.desc).map (fun d => d.parameters.length) = some 1 := by decide +kernel
def r_of (x : MT) (aa : Int32) (what : Int32) : Int32 := if (r_isAsking x aa) = true then if (r_in what 0 6) = true then (mS x) ((170 + (16 * what)) + aa).toNatClampNeg else (-1001) else (-1001)
set_option maxHeartbeats 4000000 in
set_option maxRecDepth 100000 in
theorem c_X6_of (l : Launch) (G : GG) (M : Nat → Nat) (x : MT) (aa : Int32) (what : Int32)  (hI : mI (mS x)) : Met l yX6_of wsX6_of { frames := 2, cells := 0, slots := 0, locals := 43 } (roP G [.ref (M 0), .int aa, .int what] (fun H => MAt G M x H)) (roQ (some (.int (r_of x aa what)))) 0 0 nF := by
  refine Met.ofW (cc := cX6_of) (maxL := 3) (ret := (some .int)) (by decide) rfl ?_
  intro p e s m args below meth c s₁ Bd hml hv
  obtain ⟨rfl, hK, hB⟩ := hv
  have hx := Bd.exec
  have hb := Bd.bytes
  have hr := Bd.returns
  have hts := atoms_spec (ws := wsX6_of) Bd.pre
  have hown : s.vm.findClass RX6 = some m.cls := findClass_of_methodNamed Bd.named
  have hlocks := Bd.notSynchronized
  have hC : CallFix p m c cX6_of 3 s _ wsX6_of RX6 := ⟨hx, hb, hml, hown, hts⟩
  have hl := lv_entry ([.ref (M 0), .int aa, .int what]) (n := 3) (Nat.le_of_ble_eq_true rfl)
  rw [lg_entry_eq]
  generalize (lg_sl ([.ref (M 0), .int aa, .int what]) ++ List.replicate (3 - (lg_sl ([.ref (M 0), .int aa, .int what])).length) Slot.unset).toArray = ls at hl ⊢
  have hl : lv_has ls 3 [(0, .ref (M 0)), (1, .int aa), (2, .int what)] := hl
  refine lv_aload_n hx hb dX6_of_0 rfl (lv_at hl 0 rfl) ?_
  refine lv_iload_n hx hb dX6_of_1 rfl (lv_at hl 1 rfl) ?_
  refine ro_call (va_runV (As := [.int aa]) (rest := []) hC (c_X6_isAsking l G M x aa) (cwV 1 hts gX6_of_X6_isAsking rfl rfl rfl kd_X6_isAsking ⟨Nat.le_of_ble_eq_true rfl, Nat.le_of_ble_eq_true rfl⟩) (ro_preV hK hB.1 rfl hB) rfl rfl hl.1 rfl (lv_room (Nat.le_of_ble_eq_true rfl)) dX6_of_2 ⟨Nat.zero_le _, Nat.zero_le _⟩) ?_
  refine join_at (nL := 3) 39 [(0, .ref (M 0)), (1, .int aa), (2, .int what)] [.int (if (r_isAsking x aa) = true then if (r_in what 0 6) = true then (mS x) ((170 + (16 * what)) + aa).toNatClampNeg else (-1001) else (-1001))] (fun ls hl => ?_) (fun J_1 => ?_)
  · exact ro_iret hx hb hr hlocks dX6_of_39 rfl
  · refine bz_eq (tgt := 36) hx hb dX6_of_5 (by decide) (fun h_2 => ?_) (fun h_2 => ?_)
    · refine lv_sipush (v := (-1001)) hx hb dX6_of_36 (by decide +kernel) ?_
      have hJ := J_1; (repeat rw [if_neg h_2] at hJ)
      first | exact hJ ls (lv_sub hl [0, 1, 2] rfl) | ((repeat rw [if_neg h_2] at hl); (repeat rw [if_neg h_2]); exact hJ ls (lv_sub hl [0, 1, 2] rfl))
    · refine lv_iload_n hx hb dX6_of_8 rfl (lv_at hl 2 rfl) ?_
      refine lv_iconst (v := 0) hx hb dX6_of_9 (by decide) ?_
      refine lv_bipush (v := 6) hx hb dX6_of_10 (by decide +kernel) ?_
      refine ro_call (va_runS (As := [.int what, .int 0, .int 6]) (rest := []) hC (c_X6_in l G what 0 6) (va_cwS 3 hts gX6_of_X6_in rfl rfl rfl kd_X6_in ⟨Nat.le_of_ble_eq_true rfl, Nat.le_of_ble_eq_true rfl⟩) (ro_preS hK trivial) rfl rfl hl.1 rfl (lv_room (Nat.le_of_ble_eq_true rfl)) dX6_of_12 ⟨Nat.zero_le _, Nat.zero_le _⟩) ?_
      refine bz_eq (tgt := 36) hx hb dX6_of_15 (by decide) (fun h_3 => ?_) (fun h_3 => ?_)
      · refine lv_sipush (v := (-1001)) hx hb dX6_of_36 (by decide +kernel) ?_
        have hJ := J_1; (repeat rw [if_pos h_2] at hJ); (repeat rw [if_neg h_3] at hJ)
        first | exact hJ ls (lv_sub hl [0, 1, 2] rfl) | ((repeat rw [if_pos h_2] at hl); (repeat rw [if_neg h_3] at hl); (repeat rw [if_pos h_2]); (repeat rw [if_neg h_3]); exact hJ ls (lv_sub hl [0, 1, 2] rfl))
      · refine lv_aload_n hx hb dX6_of_18 rfl (lv_at hl 0 rfl) ?_
        refine r_get (C := RX6) (T := TX6) (N := 18) hx hb hts i_X6_of_X6 hown hK hB.1 rfl 1 (by decide) k_X6_of_fieldLink_9 rfl rfl dX6_of_19 ?_
        refine lv_sipush (v := 170) hx hb dX6_of_22 (by decide +kernel) ?_
        refine lv_bipush (v := 16) hx hb dX6_of_25 (by decide +kernel) ?_
        refine lv_iload_n hx hb dX6_of_27 rfl (lv_at hl 2 rfl) ?_
        refine lv_imul hx hb dX6_of_28 ?_
        refine lv_iadd hx hb dX6_of_29 ?_
        refine lv_iload_n hx hb dX6_of_30 rfl (lv_at hl 1 rfl) ?_
        refine lv_iadd hx hb dX6_of_31 ?_
        refine r_iald hx hb hK hB.2.1 (vp_ib (lo := 170) (hi := 281) (ib_add (ib_add (ib_nI (n := 170) (by decide)) (ib_mulk (k := 16) (in_ib (a := 0) (b := 6) h_3 rfl rfl) (by decide) (by decide) (by decide)) (by decide) (by decide)) (isAsking_ib hI h_2) (by decide) (by decide)) (by decide) (by decide)) dX6_of_32 ?_
        refine lv_goto (tgt := 39) hx hb dX6_of_33 (by decide) ?_
        have hJ := J_1; (repeat rw [if_pos h_2] at hJ); (repeat rw [if_pos h_3] at hJ)
        first | exact hJ ls (lv_sub hl [0, 1, 2] rfl) | ((repeat rw [if_pos h_2] at hl); (repeat rw [if_pos h_3] at hl); (repeat rw [if_pos h_2]); (repeat rw [if_pos h_3]); exact hJ ls (lv_sub hl [0, 1, 2] rfl))
theorem i_X6_answered_X6 : ∀ w ∈ wsX60, w ∈ wsX6_answered := fun _ h => List.mem_cons_of_mem _ (List.mem_append_right _ h)
theorem k_X6_answered_fieldLink_9 : Cond.fieldLink RX6 9 "SameWaterModel" "s" "[I" ∈ wsX6_answered := by decide +kernel
theorem kd_X6_isAnswer : yX6_isAnswer.cls = RX6 ∧ yX6_isAnswer.cls ≠ "java/lang/invoke/MethodHandle" ∧ yX6_isAnswer.cls ≠ "java/lang/invoke/VarHandle" ∧ (parseMethodDescriptor yX6_isAnswer.desc).map (fun d => d.parameters.length) = some 1 := by decide +kernel
def r_answered (x : MT) (aa : Int32) (what : Int32) : Int32 := if (r_isAnswer x aa) = true then if (r_in what 0 4) = true then (mS x) ((282 + (40 * what)) + aa).toNatClampNeg else (-1) else (-1)
set_option maxHeartbeats 4000000 in
set_option maxRecDepth 100000 in
theorem c_X6_answered (l : Launch) (G : GG) (M : Nat → Nat) (x : MT) (aa : Int32) (what : Int32)  (hI : mI (mS x)) : Met l yX6_answered wsX6_answered { frames := 2, cells := 0, slots := 0, locals := 43 } (roP G [.ref (M 0), .int aa, .int what] (fun H => MAt G M x H)) (roQ (some (.int (r_answered x aa what)))) 0 0 nF := by
  refine Met.ofW (cc := cX6_answered) (maxL := 3) (ret := (some .int)) (by decide) rfl ?_
  intro p e s m args below meth c s₁ Bd hml hv
  obtain ⟨rfl, hK, hB⟩ := hv
  have hx := Bd.exec
  have hb := Bd.bytes
  have hr := Bd.returns
  have hts := atoms_spec (ws := wsX6_answered) Bd.pre
  have hown : s.vm.findClass RX6 = some m.cls := findClass_of_methodNamed Bd.named
  have hlocks := Bd.notSynchronized
  have hC : CallFix p m c cX6_answered 3 s _ wsX6_answered RX6 := ⟨hx, hb, hml, hown, hts⟩
  have hl := lv_entry ([.ref (M 0), .int aa, .int what]) (n := 3) (Nat.le_of_ble_eq_true rfl)
  rw [lg_entry_eq]
  generalize (lg_sl ([.ref (M 0), .int aa, .int what]) ++ List.replicate (3 - (lg_sl ([.ref (M 0), .int aa, .int what])).length) Slot.unset).toArray = ls at hl ⊢
  have hl : lv_has ls 3 [(0, .ref (M 0)), (1, .int aa), (2, .int what)] := hl
  refine lv_aload_n hx hb dX6_answered_0 rfl (lv_at hl 0 rfl) ?_
  refine lv_iload_n hx hb dX6_answered_1 rfl (lv_at hl 1 rfl) ?_
  refine ro_call (va_runV (As := [.int aa]) (rest := []) hC (c_X6_isAnswer l G M x aa) (cwV 1 hts gX6_answered_X6_isAnswer rfl rfl rfl kd_X6_isAnswer ⟨Nat.le_of_ble_eq_true rfl, Nat.le_of_ble_eq_true rfl⟩) (ro_preV hK hB.1 rfl hB) rfl rfl hl.1 rfl (lv_room (Nat.le_of_ble_eq_true rfl)) dX6_answered_2 ⟨Nat.zero_le _, Nat.zero_le _⟩) ?_
  refine join_at (nL := 3) 36 [(0, .ref (M 0)), (1, .int aa), (2, .int what)] [.int (if (r_isAnswer x aa) = true then if (r_in what 0 4) = true then (mS x) ((282 + (40 * what)) + aa).toNatClampNeg else (-1) else (-1))] (fun ls hl => ?_) (fun J_1 => ?_)
  · exact ro_iret hx hb hr hlocks dX6_answered_36 rfl
  · refine bz_eq (tgt := 35) hx hb dX6_answered_5 (by decide) (fun h_2 => ?_) (fun h_2 => ?_)
    · refine lv_iconst (v := (-1)) hx hb dX6_answered_35 (by decide) ?_
      have hJ := J_1; (repeat rw [if_neg h_2] at hJ)
      first | exact hJ ls (lv_sub hl [0, 1, 2] rfl) | ((repeat rw [if_neg h_2] at hl); (repeat rw [if_neg h_2]); exact hJ ls (lv_sub hl [0, 1, 2] rfl))
    · refine lv_iload_n hx hb dX6_answered_8 rfl (lv_at hl 2 rfl) ?_
      refine lv_iconst (v := 0) hx hb dX6_answered_9 (by decide) ?_
      refine lv_iconst (v := 4) hx hb dX6_answered_10 (by decide) ?_
      refine ro_call (va_runS (As := [.int what, .int 0, .int 4]) (rest := []) hC (c_X6_in l G what 0 4) (va_cwS 3 hts gX6_answered_X6_in rfl rfl rfl kd_X6_in ⟨Nat.le_of_ble_eq_true rfl, Nat.le_of_ble_eq_true rfl⟩) (ro_preS hK trivial) rfl rfl hl.1 rfl (lv_room (Nat.le_of_ble_eq_true rfl)) dX6_answered_11 ⟨Nat.zero_le _, Nat.zero_le _⟩) ?_
      refine bz_eq (tgt := 35) hx hb dX6_answered_14 (by decide) (fun h_3 => ?_) (fun h_3 => ?_)
      · refine lv_iconst (v := (-1)) hx hb dX6_answered_35 (by decide) ?_
        have hJ := J_1; (repeat rw [if_pos h_2] at hJ); (repeat rw [if_neg h_3] at hJ)
        first | exact hJ ls (lv_sub hl [0, 1, 2] rfl) | ((repeat rw [if_pos h_2] at hl); (repeat rw [if_neg h_3] at hl); (repeat rw [if_pos h_2]); (repeat rw [if_neg h_3]); exact hJ ls (lv_sub hl [0, 1, 2] rfl))
      · refine lv_aload_n hx hb dX6_answered_17 rfl (lv_at hl 0 rfl) ?_
        refine r_get (C := RX6) (T := TX6) (N := 18) hx hb hts i_X6_answered_X6 hown hK hB.1 rfl 1 (by decide) k_X6_answered_fieldLink_9 rfl rfl dX6_answered_18 ?_
        refine lv_sipush (v := 282) hx hb dX6_answered_21 (by decide +kernel) ?_
        refine lv_bipush (v := 40) hx hb dX6_answered_24 (by decide +kernel) ?_
        refine lv_iload_n hx hb dX6_answered_26 rfl (lv_at hl 2 rfl) ?_
        refine lv_imul hx hb dX6_answered_27 ?_
        refine lv_iadd hx hb dX6_answered_28 ?_
        refine lv_iload_n hx hb dX6_answered_29 rfl (lv_at hl 1 rfl) ?_
        refine lv_iadd hx hb dX6_answered_30 ?_
        refine r_iald hx hb hK hB.2.1 (vp_ib (lo := 282) (hi := 481) (ib_add (ib_add (ib_nI (n := 282) (by decide)) (ib_mulk (k := 40) (in_ib (a := 0) (b := 4) h_3 rfl rfl) (by decide) (by decide) (by decide)) (by decide) (by decide)) (isAnswer_ib hI h_2) (by decide) (by decide)) (by decide) (by decide)) dX6_answered_31 ?_
        refine lv_goto (tgt := 36) hx hb dX6_answered_32 (by decide) ?_
        have hJ := J_1; (repeat rw [if_pos h_2] at hJ); (repeat rw [if_pos h_3] at hJ)
        first | exact hJ ls (lv_sub hl [0, 1, 2] rfl) | ((repeat rw [if_pos h_2] at hl); (repeat rw [if_pos h_3] at hl); (repeat rw [if_pos h_2]); (repeat rw [if_pos h_3]); exact hJ ls (lv_sub hl [0, 1, 2] rfl))
theorem i_X6_told_X6 : ∀ w ∈ wsX60, w ∈ wsX6_told := fun _ h => List.mem_cons_of_mem _ (List.mem_append_right _ h)
theorem k_X6_told_fieldLink_9 : Cond.fieldLink RX6 9 "SameWaterModel" "s" "[I" ∈ wsX6_told := by decide +kernel
theorem kd_X6_isLaw : yX6_isLaw.cls = RX6 ∧ yX6_isLaw.cls ≠ "java/lang/invoke/MethodHandle" ∧ yX6_isLaw.cls ≠ "java/lang/invoke/VarHandle" ∧ (parseMethodDescriptor yX6_isLaw.desc).map (fun d => d.parameters.length) = some 1 := by decide +kernel
def r_told (x : MT) (ll : Int32) (what : Int32) : Int32 := if (r_isLaw x ll) = true then if (r_in what 0 2) = true then (mS x) ((482 + (8 * what)) + ll).toNatClampNeg else if (r_in what 10 13) = true then (mS x) (((506 + (4 * ll)) + what) - 10).toNatClampNeg else (-1) else (-1)
set_option maxHeartbeats 4000000 in
set_option maxRecDepth 100000 in
theorem c_X6_told (l : Launch) (G : GG) (M : Nat → Nat) (x : MT) (ll : Int32) (what : Int32)  (hI : mI (mS x)) : Met l yX6_told wsX6_told { frames := 2, cells := 0, slots := 0, locals := 43 } (roP G [.ref (M 0), .int ll, .int what] (fun H => MAt G M x H)) (roQ (some (.int (r_told x ll what)))) 0 0 nF := by
  refine Met.ofW (cc := cX6_told) (maxL := 3) (ret := (some .int)) (by decide) rfl ?_
  intro p e s m args below meth c s₁ Bd hml hv
  obtain ⟨rfl, hK, hB⟩ := hv
  have hx := Bd.exec
  have hb := Bd.bytes
  have hr := Bd.returns
  have hts := atoms_spec (ws := wsX6_told) Bd.pre
  have hown : s.vm.findClass RX6 = some m.cls := findClass_of_methodNamed Bd.named
  have hlocks := Bd.notSynchronized
  have hC : CallFix p m c cX6_told 3 s _ wsX6_told RX6 := ⟨hx, hb, hml, hown, hts⟩
  have hl := lv_entry ([.ref (M 0), .int ll, .int what]) (n := 3) (Nat.le_of_ble_eq_true rfl)
  rw [lg_entry_eq]
  generalize (lg_sl ([.ref (M 0), .int ll, .int what]) ++ List.replicate (3 - (lg_sl ([.ref (M 0), .int ll, .int what])).length) Slot.unset).toArray = ls at hl ⊢
  have hl : lv_has ls 3 [(0, .ref (M 0)), (1, .int ll), (2, .int what)] := hl
  refine lv_aload_n hx hb dX6_told_0 rfl (lv_at hl 0 rfl) ?_
  refine lv_iload_n hx hb dX6_told_1 rfl (lv_at hl 1 rfl) ?_
  refine ro_call (va_runV (As := [.int ll]) (rest := []) hC (c_X6_isLaw l G M x ll) (cwV 1 hts gX6_told_X6_isLaw rfl rfl rfl kd_X6_isLaw ⟨Nat.le_of_ble_eq_true rfl, Nat.le_of_ble_eq_true rfl⟩) (ro_preV hK hB.1 rfl hB) rfl rfl hl.1 rfl (lv_room (Nat.le_of_ble_eq_true rfl)) dX6_told_2 ⟨Nat.zero_le _, Nat.zero_le _⟩) ?_
  refine bz_ne (tgt := 10) hx hb dX6_told_5 (by decide) (fun h_1 => ?_) (fun h_1 => ?_)
  · refine lv_iload_n hx hb dX6_told_10 rfl (lv_at hl 2 rfl) ?_
    refine lv_iconst (v := 0) hx hb dX6_told_11 (by decide) ?_
    refine lv_iconst (v := 2) hx hb dX6_told_12 (by decide) ?_
    refine ro_call (va_runS (As := [.int what, .int 0, .int 2]) (rest := []) hC (c_X6_in l G what 0 2) (va_cwS 3 hts gX6_told_X6_in rfl rfl rfl kd_X6_in ⟨Nat.le_of_ble_eq_true rfl, Nat.le_of_ble_eq_true rfl⟩) (ro_preS hK trivial) rfl rfl hl.1 rfl (lv_room (Nat.le_of_ble_eq_true rfl)) dX6_told_13 ⟨Nat.zero_le _, Nat.zero_le _⟩) ?_
    refine join_at (nL := 3) 69 [(0, .ref (M 0)), (1, .int ll), (2, .int what)] [.int (if (r_in what 0 2) = true then (mS x) ((482 + (8 * what)) + ll).toNatClampNeg else if (r_in what 10 13) = true then (mS x) (((506 + (4 * ll)) + what) - 10).toNatClampNeg else (-1))] (fun ls hl => ?_) (fun J_2 => ?_)
    · exact ro_iret hx hb hr hlocks dX6_told_69 (by (try unfold r_told); (repeat rw [if_pos h_1]); first | done | rfl)
    · refine bz_eq (tgt := 37) hx hb dX6_told_16 (by decide) (fun h_3 => ?_) (fun h_3 => ?_)
      · refine lv_iload_n hx hb dX6_told_37 rfl (lv_at hl 2 rfl) ?_
        refine lv_bipush (v := 10) hx hb dX6_told_38 (by decide +kernel) ?_
        refine lv_bipush (v := 13) hx hb dX6_told_40 (by decide +kernel) ?_
        refine ro_call (va_runS (As := [.int what, .int 10, .int 13]) (rest := []) hC (c_X6_in l G what 10 13) (va_cwS 3 hts gX6_told_X6_in rfl rfl rfl kd_X6_in ⟨Nat.le_of_ble_eq_true rfl, Nat.le_of_ble_eq_true rfl⟩) (ro_preS hK trivial) rfl rfl hl.1 rfl (lv_room (Nat.le_of_ble_eq_true rfl)) dX6_told_42 ⟨Nat.zero_le _, Nat.zero_le _⟩) ?_
        refine bz_eq (tgt := 68) hx hb dX6_told_45 (by decide) (fun h_4 => ?_) (fun h_4 => ?_)
        · refine lv_iconst (v := (-1)) hx hb dX6_told_68 (by decide) ?_
          have hJ := J_2; (repeat rw [if_neg h_3] at hJ); (repeat rw [if_neg h_4] at hJ)
          first | exact hJ ls (lv_sub hl [0, 1, 2] rfl) | ((repeat rw [if_neg h_3] at hl); (repeat rw [if_neg h_4] at hl); (repeat rw [if_neg h_3]); (repeat rw [if_neg h_4]); exact hJ ls (lv_sub hl [0, 1, 2] rfl))
        · refine lv_aload_n hx hb dX6_told_48 rfl (lv_at hl 0 rfl) ?_
          refine r_get (C := RX6) (T := TX6) (N := 18) hx hb hts i_X6_told_X6 hown hK hB.1 rfl 1 (by decide) k_X6_told_fieldLink_9 rfl rfl dX6_told_49 ?_
          refine lv_sipush (v := 506) hx hb dX6_told_52 (by decide +kernel) ?_
          refine lv_iconst (v := 4) hx hb dX6_told_55 (by decide) ?_
          refine lv_iload_n hx hb dX6_told_56 rfl (lv_at hl 1 rfl) ?_
          refine lv_imul hx hb dX6_told_57 ?_
          refine lv_iadd hx hb dX6_told_58 ?_
          refine lv_iload_n hx hb dX6_told_59 rfl (lv_at hl 2 rfl) ?_
          refine lv_iadd hx hb dX6_told_60 ?_
          refine lv_bipush (v := 10) hx hb dX6_told_61 (by decide +kernel) ?_
          refine lv_isub hx hb dX6_told_63 ?_
          refine r_iald hx hb hK hB.2.1 (vp_ib (lo := 506) (hi := 537) (ib_sub (ib_add (ib_add (ib_nI (n := 506) (by decide)) (ib_mulk (k := 4) (isLaw_ib hI h_1) (by decide) (by decide) (by decide)) (by decide) (by decide)) (in_ib (a := 10) (b := 13) h_4 rfl rfl) (by decide) (by decide)) (ib_nI (n := 10) (by decide)) (by decide) (by decide)) (by decide) (by decide)) dX6_told_64 ?_
          refine lv_goto (tgt := 69) hx hb dX6_told_65 (by decide) ?_
          have hJ := J_2; (repeat rw [if_neg h_3] at hJ); (repeat rw [if_pos h_4] at hJ)
          first | exact hJ ls (lv_sub hl [0, 1, 2] rfl) | ((repeat rw [if_neg h_3] at hl); (repeat rw [if_pos h_4] at hl); (repeat rw [if_neg h_3]); (repeat rw [if_pos h_4]); exact hJ ls (lv_sub hl [0, 1, 2] rfl))
      · refine lv_aload_n hx hb dX6_told_19 rfl (lv_at hl 0 rfl) ?_
        refine r_get (C := RX6) (T := TX6) (N := 18) hx hb hts i_X6_told_X6 hown hK hB.1 rfl 1 (by decide) k_X6_told_fieldLink_9 rfl rfl dX6_told_20 ?_
        refine lv_sipush (v := 482) hx hb dX6_told_23 (by decide +kernel) ?_
        refine lv_bipush (v := 8) hx hb dX6_told_26 (by decide +kernel) ?_
        refine lv_iload_n hx hb dX6_told_28 rfl (lv_at hl 2 rfl) ?_
        refine lv_imul hx hb dX6_told_29 ?_
        refine lv_iadd hx hb dX6_told_30 ?_
        refine lv_iload_n hx hb dX6_told_31 rfl (lv_at hl 1 rfl) ?_
        refine lv_iadd hx hb dX6_told_32 ?_
        refine r_iald hx hb hK hB.2.1 (vp_ib (lo := 482) (hi := 505) (ib_add (ib_add (ib_nI (n := 482) (by decide)) (ib_mulk (k := 8) (in_ib (a := 0) (b := 2) h_3 rfl rfl) (by decide) (by decide) (by decide)) (by decide) (by decide)) (isLaw_ib hI h_1) (by decide) (by decide)) (by decide) (by decide)) dX6_told_33 ?_
        refine lv_goto (tgt := 69) hx hb dX6_told_34 (by decide) ?_
        have hJ := J_2; (repeat rw [if_pos h_3] at hJ)
        first | exact hJ ls (lv_sub hl [0, 1, 2] rfl) | ((repeat rw [if_pos h_3] at hl); (repeat rw [if_pos h_3]); exact hJ ls (lv_sub hl [0, 1, 2] rfl))
  · refine lv_iconst (v := (-1)) hx hb dX6_told_8 (by decide) ?_
    exact ro_iret hx hb hr hlocks dX6_told_9 (by (try unfold r_told); (repeat rw [if_neg h_1]); first | done | rfl)

theorem ch_narrow : ∀ n, n < 128 → narrow .char (.int (nI n)) = .int (nI n) := by decide +kernel
theorem ch_low : ∀ n, n < 128 → (((nI n) &&& 255).toUInt32 % 65536).toInt32 = nI n := by decide +kernel
theorem chN {n : Nat} (h : n < 128) : narrow .char (.int ((((nI n) &&& 255).toUInt32 % 65536).toInt32)) = .int ((((nI n) &&& 255).toUInt32 % 65536).toInt32) := by rw [ch_low n h]; exact ch_narrow n h
theorem k_J0_coder_7d493_fieldLink_38 : Cond.fieldLink RJ0 38 "java/lang/String" "COMPACT_STRINGS" "Z" ∈ wsJ0_coder_7d493 := by decide +kernel
theorem k_J0_coder_7d493_fieldLink_15 : Cond.fieldLink RJ0 15 "java/lang/String" "coder" "B" ∈ wsJ0_coder_7d493 := by decide +kernel
set_option maxHeartbeats 4000000 in
set_option maxRecDepth 100000 in
theorem c_J0_coder_7d493 (l : Launch) (G : GG) (Z : AM) (i : Nat) (hi : i < 15) : Met l yJ0_coder_7d493 wsJ0_coder_7d493 { frames := 0, cells := 0, slots := 0, locals := 0 } (aP G Z [.ref (zK Z i)] (fun H => True)) (roQ (some (.int (0)))) 0 0 nF := by
  refine Met.ofW (cc := cJ0_coder_7d493) (maxL := 1) (ret := (some .byte)) (by decide) rfl ?_
  intro p e s m args below meth c s₁ Bd hml hv
  obtain ⟨rfl, hK, hZ, hB⟩ := hv
  have hx := Bd.exec
  have hb := Bd.bytes
  have hr := Bd.returns
  have hts := atoms_spec (ws := wsJ0_coder_7d493) Bd.pre
  have hown : s.vm.findClass RJ0 = some m.cls := findClass_of_methodNamed Bd.named
  have hlocks := Bd.notSynchronized
  have hC : CallFix p m c cJ0_coder_7d493 1 s _ wsJ0_coder_7d493 RJ0 := ⟨hx, hb, hml, hown, hts⟩
  have hl := lv_entry ([.ref (zK Z i)]) (n := 1) (Nat.le_of_ble_eq_true rfl)
  rw [lg_entry_eq]
  generalize (lg_sl ([.ref (zK Z i)]) ++ List.replicate (1 - (lg_sl ([.ref (zK Z i)])).length) Slot.unset).toArray = ls at hl ⊢
  have hl : lv_has ls 1 [(0, .ref (zK Z i))] := hl
  refine a_gets hx hb hZ.2.1 hts hown k_J0_coder_7d493_fieldLink_38 rfl dJ0_coder_7d493_0 ?_
  refine lv_if_eq (tgt := 13) hx hb dJ0_coder_7d493_3 (by decide) (fun h_1 => ?_) (fun h_1 => ?_)
  · exact absurd h_1 (by decide)
  · refine lv_aload_n hx hb dJ0_coder_7d493_6 rfl (lv_at hl 0 rfl) ?_
    refine a_getf hx hb (hZ.1 _ hi).2.1 hts hown k_J0_coder_7d493_fieldLink_15 rfl dJ0_coder_7d493_7 ?_
    refine lv_goto (tgt := 14) hx hb dJ0_coder_7d493_10 (by decide) ?_
    exact ro_nret hx hb hr rfl hlocks dJ0_coder_7d493_14 rfl
theorem k_J0_isLatin1_aae02_fieldLink_38 : Cond.fieldLink RJ0 38 "java/lang/String" "COMPACT_STRINGS" "Z" ∈ wsJ0_isLatin1_aae02 := by decide +kernel
theorem k_J0_isLatin1_aae02_fieldLink_15 : Cond.fieldLink RJ0 15 "java/lang/String" "coder" "B" ∈ wsJ0_isLatin1_aae02 := by decide +kernel
set_option maxHeartbeats 4000000 in
set_option maxRecDepth 100000 in
theorem c_J0_isLatin1_aae02 (l : Launch) (G : GG) (Z : AM) (i : Nat) (hi : i < 15) : Met l yJ0_isLatin1_aae02 wsJ0_isLatin1_aae02 { frames := 0, cells := 0, slots := 0, locals := 0 } (aP G Z [.ref (zK Z i)] (fun H => True)) (roQ (some (.int (b2i (true))))) 0 0 nF := by
  refine Met.ofW (cc := cJ0_isLatin1_aae02) (maxL := 1) (ret := (some .boolean)) (by decide) rfl ?_
  intro p e s m args below meth c s₁ Bd hml hv
  obtain ⟨rfl, hK, hZ, hB⟩ := hv
  have hx := Bd.exec
  have hb := Bd.bytes
  have hr := Bd.returns
  have hts := atoms_spec (ws := wsJ0_isLatin1_aae02) Bd.pre
  have hown : s.vm.findClass RJ0 = some m.cls := findClass_of_methodNamed Bd.named
  have hlocks := Bd.notSynchronized
  have hC : CallFix p m c cJ0_isLatin1_aae02 1 s _ wsJ0_isLatin1_aae02 RJ0 := ⟨hx, hb, hml, hown, hts⟩
  have hl := lv_entry ([.ref (zK Z i)]) (n := 1) (Nat.le_of_ble_eq_true rfl)
  rw [lg_entry_eq]
  generalize (lg_sl ([.ref (zK Z i)]) ++ List.replicate (1 - (lg_sl ([.ref (zK Z i)])).length) Slot.unset).toArray = ls at hl ⊢
  have hl : lv_has ls 1 [(0, .ref (zK Z i))] := hl
  refine a_gets hx hb hZ.2.1 hts hown k_J0_isLatin1_aae02_fieldLink_38 rfl dJ0_isLatin1_aae02_0 ?_
  refine lv_if_eq (tgt := 17) hx hb dJ0_isLatin1_aae02_3 (by decide) (fun h_1 => ?_) (fun h_1 => ?_)
  · exact absurd h_1 (by decide)
  · refine lv_aload_n hx hb dJ0_isLatin1_aae02_6 rfl (lv_at hl 0 rfl) ?_
    refine a_getf hx hb (hZ.1 _ hi).2.1 hts hown k_J0_isLatin1_aae02_fieldLink_15 rfl dJ0_isLatin1_aae02_7 ?_
    refine lv_if_ne (tgt := 17) hx hb dJ0_isLatin1_aae02_10 (by decide) (fun h_2 => ?_) (fun h_2 => ?_)
    · exact absurd (by decide) h_2
    · refine lv_iconst (v := 1) hx hb dJ0_isLatin1_aae02_13 (by decide) ?_
      refine lv_goto (tgt := 18) hx hb dJ0_isLatin1_aae02_14 (by decide) ?_
      exact ro_zret hx hb hr hlocks dJ0_isLatin1_aae02_18 rfl
theorem shr0 (n : Nat) (h : n ≤ 10) : nI n >>> ((0 : Int32) &&& 31) = nI n := sc_shr0 (by omega)
theorem k_J0_length_8abf5_fieldLink_9 : Cond.fieldLink RJ0 9 "java/lang/String" "value" "[B" ∈ wsJ0_length_8abf5 := by decide +kernel
theorem kd_J0_coder_7d493 : yJ0_coder_7d493.cls = RJ0 ∧ yJ0_coder_7d493.cls ≠ "java/lang/invoke/MethodHandle" ∧ yJ0_coder_7d493.cls ≠ "java/lang/invoke/VarHandle" ∧ (parseMethodDescriptor yJ0_coder_7d493.desc).map (fun d => d.parameters.length) = some 0 := by decide +kernel
set_option maxHeartbeats 4000000 in
set_option maxRecDepth 100000 in
theorem c_J0_length_8abf5 (l : Launch) (G : GG) (Z : AM) (i : Nat) (hi : i < 15) : Met l yJ0_length_8abf5 wsJ0_length_8abf5 { frames := 1, cells := 0, slots := 0, locals := 20 } (aP G Z [.ref (zK Z i)] (fun H => True)) (roQ (some (.int (nI (txB i).length)))) 0 0 nF := by
  refine Met.ofW (cc := cJ0_length_8abf5) (maxL := 1) (ret := (some .int)) (by decide) rfl ?_
  intro p e s m args below meth c s₁ Bd hml hv
  obtain ⟨rfl, hK, hZ, hB⟩ := hv
  have hx := Bd.exec
  have hb := Bd.bytes
  have hr := Bd.returns
  have hts := atoms_spec (ws := wsJ0_length_8abf5) Bd.pre
  have hown : s.vm.findClass RJ0 = some m.cls := findClass_of_methodNamed Bd.named
  have hlocks := Bd.notSynchronized
  have hC : CallFix p m c cJ0_length_8abf5 1 s _ wsJ0_length_8abf5 RJ0 := ⟨hx, hb, hml, hown, hts⟩
  have hl := lv_entry ([.ref (zK Z i)]) (n := 1) (Nat.le_of_ble_eq_true rfl)
  rw [lg_entry_eq]
  generalize (lg_sl ([.ref (zK Z i)]) ++ List.replicate (1 - (lg_sl ([.ref (zK Z i)])).length) Slot.unset).toArray = ls at hl ⊢
  have hl : lv_has ls 1 [(0, .ref (zK Z i))] := hl
  refine lv_aload_n hx hb dJ0_length_8abf5_0 rfl (lv_at hl 0 rfl) ?_
  refine a_getf hx hb (hZ.1 _ hi).2.2.1 hts hown k_J0_length_8abf5_fieldLink_9 rfl dJ0_length_8abf5_1 ?_
  refine a_alen hx hb (hZ.1 _ hi).2.2.2 dJ0_length_8abf5_4 ?_
  refine lv_aload_n hx hb dJ0_length_8abf5_5 rfl (lv_at hl 0 rfl) ?_
  refine ro_call (va_runV (As := []) (rest := [.int (nI (txB i).length)]) hC (c_J0_coder_7d493 l G Z i hi) (cwV 0 hts gJ0_length_8abf5_J0_coder_7d493 rfl rfl rfl kd_J0_coder_7d493 ⟨Nat.le_of_ble_eq_true rfl, Nat.le_of_ble_eq_true rfl⟩) (a_preT hK hZ hi trivial) rfl rfl hl.1 rfl (lv_room (Nat.le_of_ble_eq_true rfl)) dJ0_length_8abf5_6 ⟨Nat.zero_le _, Nat.zero_le _⟩) ?_
  refine lv_ishr hx hb dJ0_length_8abf5_9 ?_
  exact ro_iret hx hb hr hlocks dJ0_length_8abf5_10 (shr0 _ (txB_len i))
set_option maxHeartbeats 4000000 in
set_option maxRecDepth 100000 in
theorem c_J3_checkIndex_n (l : Launch) (G : GG) (j n : Nat) (hj : j < n) (hn : n ≤ 10) : Met l yJ3_checkIndex_8e157 wsJ3_checkIndex_8e157 { frames := 0, cells := 0, slots := 0, locals := 0 } (roP G [.int (nI j), .int (nI n), .null] (fun H => True)) (roQ (some (.int (nI j)))) 0 0 nF := by
  refine Met.ofW (cc := cJ3_checkIndex_8e157) (maxL := 3) (ret := (some .int)) (by decide) rfl ?_
  intro p e s m args below meth c s₁ Bd hml hv
  obtain ⟨rfl, hK, hB⟩ := hv
  have hx := Bd.exec
  have hb := Bd.bytes
  have hr := Bd.returns
  have hts := atoms_spec (ws := wsJ3_checkIndex_8e157) Bd.pre
  have hown : s.vm.findClass RJ3 = some m.cls := findClass_of_methodNamed Bd.named
  have hlocks := Bd.notSynchronized
  have hC : CallFix p m c cJ3_checkIndex_8e157 3 s _ wsJ3_checkIndex_8e157 RJ3 := ⟨hx, hb, hml, hown, hts⟩
  have hl := lv_entry ([.int (nI j), .int (nI n), .null]) (n := 3) (Nat.le_of_ble_eq_true rfl)
  rw [lg_entry_eq]
  generalize (lg_sl ([.int (nI j), .int (nI n), .null]) ++ List.replicate (3 - (lg_sl ([.int (nI j), .int (nI n), .null])).length) Slot.unset).toArray = ls at hl ⊢
  have hl : lv_has ls 3 [(0, .int (nI j)), (1, .int (nI n)), (2, .null)] := hl
  refine lv_iload_n hx hb dJ3_checkIndex_8e157_0 rfl (lv_at hl 0 rfl) ?_
  refine lv_if_lt (tgt := 9) hx hb dJ3_checkIndex_8e157_1 (by decide) (fun h_1 => ?_) (fun h_1 => ?_)
  · exact absurd h_1 (nI_pos (by omega))
  · refine lv_iload_n hx hb dJ3_checkIndex_8e157_4 rfl (lv_at hl 0 rfl) ?_
    refine lv_iload_n hx hb dJ3_checkIndex_8e157_5 rfl (lv_at hl 1 rfl) ?_
    refine lv_icmp_lt (tgt := 16) hx hb dJ3_checkIndex_8e157_6 (by decide) (fun h_2 => ?_) (fun h_2 => ?_)
    · refine lv_iload_n hx hb dJ3_checkIndex_8e157_16 rfl (lv_at hl 0 rfl) ?_
      exact ro_iret hx hb hr hlocks dJ3_checkIndex_8e157_17 rfl
    · exact absurd (nI_lt hj (by omega)) h_2
set_option maxHeartbeats 4000000 in
set_option maxRecDepth 100000 in
theorem c_J3_checkIndex_r (l : Launch) (G : GG) (j n : Nat) (t9 : Nat) (hj : j < n) (hn : n ≤ 10) : Met l yJ3_checkIndex_8e157 wsJ3_checkIndex_8e157 { frames := 0, cells := 0, slots := 0, locals := 0 } (roP G [.int (nI j), .int (nI n), .ref t9] (fun H => True)) (roQ (some (.int (nI j)))) 0 0 nF := by
  refine Met.ofW (cc := cJ3_checkIndex_8e157) (maxL := 3) (ret := (some .int)) (by decide) rfl ?_
  intro p e s m args below meth c s₁ Bd hml hv
  obtain ⟨rfl, hK, hB⟩ := hv
  have hx := Bd.exec
  have hb := Bd.bytes
  have hr := Bd.returns
  have hts := atoms_spec (ws := wsJ3_checkIndex_8e157) Bd.pre
  have hown : s.vm.findClass RJ3 = some m.cls := findClass_of_methodNamed Bd.named
  have hlocks := Bd.notSynchronized
  have hC : CallFix p m c cJ3_checkIndex_8e157 3 s _ wsJ3_checkIndex_8e157 RJ3 := ⟨hx, hb, hml, hown, hts⟩
  have hl := lv_entry ([.int (nI j), .int (nI n), .ref t9]) (n := 3) (Nat.le_of_ble_eq_true rfl)
  rw [lg_entry_eq]
  generalize (lg_sl ([.int (nI j), .int (nI n), .ref t9]) ++ List.replicate (3 - (lg_sl ([.int (nI j), .int (nI n), .ref t9])).length) Slot.unset).toArray = ls at hl ⊢
  have hl : lv_has ls 3 [(0, .int (nI j)), (1, .int (nI n)), (2, .ref t9)] := hl
  refine lv_iload_n hx hb dJ3_checkIndex_8e157_0 rfl (lv_at hl 0 rfl) ?_
  refine lv_if_lt (tgt := 9) hx hb dJ3_checkIndex_8e157_1 (by decide) (fun h_1 => ?_) (fun h_1 => ?_)
  · exact absurd h_1 (nI_pos (by omega))
  · refine lv_iload_n hx hb dJ3_checkIndex_8e157_4 rfl (lv_at hl 0 rfl) ?_
    refine lv_iload_n hx hb dJ3_checkIndex_8e157_5 rfl (lv_at hl 1 rfl) ?_
    refine lv_icmp_lt (tgt := 16) hx hb dJ3_checkIndex_8e157_6 (by decide) (fun h_2 => ?_) (fun h_2 => ?_)
    · refine lv_iload_n hx hb dJ3_checkIndex_8e157_16 rfl (lv_at hl 0 rfl) ?_
      exact ro_iret hx hb hr hlocks dJ3_checkIndex_8e157_17 rfl
    · exact absurd (nI_lt hj (by omega)) h_2
theorem k_J0_checkIndex_df160_fieldLink_1053 : Cond.fieldLink RJ0 1053 "jdk/internal/util/Preconditions" "SIOOBE_FORMATTER" "Ljava/util/function/BiFunction;" ∈ wsJ0_checkIndex_df160 := by decide +kernel
theorem kd_J3_checkIndex_8e157 : yJ3_checkIndex_8e157.cls ≠ "java/lang/invoke/MethodHandle" ∧ yJ3_checkIndex_8e157.cls ≠ "java/lang/invoke/VarHandle" ∧ (parseMethodDescriptor yJ3_checkIndex_8e157.desc).map (fun d => d.parameters.length) = some 3 := by decide +kernel
set_option maxHeartbeats 4000000 in
set_option maxRecDepth 100000 in
theorem c_J0_checkIndex_df160 (l : Launch) (G : GG) (Z : AM) (j n : Nat) (hj : j < n) (hn : n ≤ 10) : Met l yJ0_checkIndex_df160 wsJ0_checkIndex_df160 { frames := 1, cells := 0, slots := 0, locals := 22 } (aP G Z [.int (nI j), .int (nI n)] (fun H => True)) (roQ none) 0 0 nF := by
  refine Met.ofW (cc := cJ0_checkIndex_df160) (maxL := 2) (ret := none) (by decide) rfl ?_
  intro p e s m args below meth c s₁ Bd hml hv
  obtain ⟨rfl, hK, hZ, hB⟩ := hv
  have hx := Bd.exec
  have hb := Bd.bytes
  have hr := Bd.returns
  have hts := atoms_spec (ws := wsJ0_checkIndex_df160) Bd.pre
  have hown : s.vm.findClass RJ0 = some m.cls := findClass_of_methodNamed Bd.named
  have hlocks := Bd.notSynchronized
  have hC : CallFix p m c cJ0_checkIndex_df160 2 s _ wsJ0_checkIndex_df160 RJ0 := ⟨hx, hb, hml, hown, hts⟩
  have hl := lv_entry ([.int (nI j), .int (nI n)]) (n := 2) (Nat.le_of_ble_eq_true rfl)
  rw [lg_entry_eq]
  generalize (lg_sl ([.int (nI j), .int (nI n)]) ++ List.replicate (2 - (lg_sl ([.int (nI j), .int (nI n)])).length) Slot.unset).toArray = ls at hl ⊢
  have hl : lv_has ls 2 [(0, .int (nI j)), (1, .int (nI n))] := hl
  refine lv_iload_n hx hb dJ0_checkIndex_df160_0 rfl (lv_at hl 0 rfl) ?_
  refine lv_iload_n hx hb dJ0_checkIndex_df160_1 rfl (lv_at hl 1 rfl) ?_
  rcases hZ.2.2.1 with hq9 | ⟨t9, hq9⟩
  · refine a_gets hx hb hq9 hts hown k_J0_checkIndex_df160_fieldLink_1053 rfl dJ0_checkIndex_df160_2 ?_
    refine ro_call (va_runS (As := [.int (nI j), .int (nI n), .null]) (rest := []) hC (c_J3_checkIndex_n l G j n hj hn) (va_cwS 3 hts gJ0_checkIndex_df160_J3_checkIndex_8e157 rfl rfl rfl kd_J3_checkIndex_8e157 ⟨Nat.le_of_ble_eq_true rfl, Nat.le_of_ble_eq_true rfl⟩) (ro_preS hK trivial) rfl rfl hl.1 rfl (lv_room (Nat.le_of_ble_eq_true rfl)) dJ0_checkIndex_df160_5 ⟨Nat.zero_le _, Nat.zero_le _⟩) ?_
    refine lv_pop hx hb dJ0_checkIndex_df160_8 rfl ?_
    exact ro_vret hx hb hr hlocks dJ0_checkIndex_df160_9
  · refine a_gets hx hb hq9 hts hown k_J0_checkIndex_df160_fieldLink_1053 rfl dJ0_checkIndex_df160_2 ?_
    refine ro_call (va_runS (As := [.int (nI j), .int (nI n), .ref t9]) (rest := []) hC (c_J3_checkIndex_r l G j n t9 hj hn) (va_cwS 3 hts gJ0_checkIndex_df160_J3_checkIndex_8e157 rfl rfl rfl kd_J3_checkIndex_8e157 ⟨Nat.le_of_ble_eq_true rfl, Nat.le_of_ble_eq_true rfl⟩) (ro_preS hK trivial) rfl rfl hl.1 rfl (lv_room (Nat.le_of_ble_eq_true rfl)) dJ0_checkIndex_df160_5 ⟨Nat.zero_le _, Nat.zero_le _⟩) ?_
    refine lv_pop hx hb dJ0_checkIndex_df160_8 rfl ?_
    exact ro_vret hx hb hr hlocks dJ0_checkIndex_df160_9
theorem kd_J0_checkIndex_df160 : yJ0_checkIndex_df160.cls ≠ "java/lang/invoke/MethodHandle" ∧ yJ0_checkIndex_df160.cls ≠ "java/lang/invoke/VarHandle" ∧ (parseMethodDescriptor yJ0_checkIndex_df160.desc).map (fun d => d.parameters.length) = some 2 := by decide +kernel
set_option maxHeartbeats 4000000 in
set_option maxRecDepth 100000 in
theorem c_J1_charAt_3b067 (l : Launch) (G : GG) (Z : AM) (i : Nat) (j : Nat) (hi : i < 15) (hj : j < (txB i).length) : Met l yJ1_charAt_3b067 wsJ1_charAt_3b067 { frames := 2, cells := 0, slots := 0, locals := 43 } (aP G Z [.ref (zV Z i), .int (nI j)] (fun H => True)) (roQ (some (.int (((((nI ((txB i).getD (nI j).toNatClampNeg 0)) &&& 255).toUInt32 % 65536).toInt32))))) 0 0 nF := by
  refine Met.ofW (cc := cJ1_charAt_3b067) (maxL := 2) (ret := (some .char)) (by decide) rfl ?_
  intro p e s m args below meth c s₁ Bd hml hv
  obtain ⟨rfl, hK, hZ, hB⟩ := hv
  have hx := Bd.exec
  have hb := Bd.bytes
  have hr := Bd.returns
  have hts := atoms_spec (ws := wsJ1_charAt_3b067) Bd.pre
  have hown : s.vm.findClass RJ1 = some m.cls := findClass_of_methodNamed Bd.named
  have hlocks := Bd.notSynchronized
  have hC : CallFix p m c cJ1_charAt_3b067 2 s _ wsJ1_charAt_3b067 RJ1 := ⟨hx, hb, hml, hown, hts⟩
  have hl := lv_entry ([.ref (zV Z i), .int (nI j)]) (n := 2) (Nat.le_of_ble_eq_true rfl)
  rw [lg_entry_eq]
  generalize (lg_sl ([.ref (zV Z i), .int (nI j)]) ++ List.replicate (2 - (lg_sl ([.ref (zV Z i), .int (nI j)])).length) Slot.unset).toArray = ls at hl ⊢
  have hl : lv_has ls 2 [(0, .ref (zV Z i)), (1, .int (nI j))] := hl
  refine lv_iload_n hx hb dJ1_charAt_3b067_0 rfl (lv_at hl 1 rfl) ?_
  refine lv_aload_n hx hb dJ1_charAt_3b067_1 rfl (lv_at hl 0 rfl) ?_
  refine a_alen hx hb (hZ.1 _ hi).2.2.2 dJ1_charAt_3b067_2 ?_
  refine ro_callv (va_runS (As := [.int (nI j), .int (nI (txB i).length)]) (rest := []) hC (c_J0_checkIndex_df160 l G Z j (txB i).length hj (txB_len i)) (va_cwS 2 hts gJ1_charAt_3b067_J0_checkIndex_df160 rfl rfl rfl kd_J0_checkIndex_df160 ⟨Nat.le_of_ble_eq_true rfl, Nat.le_of_ble_eq_true rfl⟩) (a_preS hK hZ trivial) rfl rfl hl.1 rfl (lv_room (Nat.le_of_ble_eq_true rfl)) dJ1_charAt_3b067_3 ⟨Nat.zero_le _, Nat.zero_le _⟩) ?_
  refine lv_aload_n hx hb dJ1_charAt_3b067_6 rfl (lv_at hl 0 rfl) ?_
  refine lv_iload_n hx hb dJ1_charAt_3b067_7 rfl (lv_at hl 1 rfl) ?_
  refine a_bald hx hb (hZ.1 _ hi).2.2.2 (vp_in_nI hj (by have := txB_len i; omega)) dJ1_charAt_3b067_8 ?_
  refine lv_sipush (v := 255) hx hb dJ1_charAt_3b067_9 (by decide +kernel) ?_
  refine lv_iand hx hb dJ1_charAt_3b067_12 ?_
  refine lv_i2c (v := (((nI ((txB i).getD (nI j).toNatClampNeg 0)) &&& 255 : Int32).toUInt32 % 65536).toInt32) hx hb dJ1_charAt_3b067_13 rfl ?_
  exact ro_nret hx hb hr (chN (txB_get i _)) hlocks dJ1_charAt_3b067_14 rfl
theorem k_J0_charAt_5068e_fieldLink_9 : Cond.fieldLink RJ0 9 "java/lang/String" "value" "[B" ∈ wsJ0_charAt_5068e := by decide +kernel
theorem kd_J0_isLatin1_aae02 : yJ0_isLatin1_aae02.cls = RJ0 ∧ yJ0_isLatin1_aae02.cls ≠ "java/lang/invoke/MethodHandle" ∧ yJ0_isLatin1_aae02.cls ≠ "java/lang/invoke/VarHandle" ∧ (parseMethodDescriptor yJ0_isLatin1_aae02.desc).map (fun d => d.parameters.length) = some 0 := by decide +kernel
theorem kd_J1_charAt_3b067 : yJ1_charAt_3b067.cls ≠ "java/lang/invoke/MethodHandle" ∧ yJ1_charAt_3b067.cls ≠ "java/lang/invoke/VarHandle" ∧ (parseMethodDescriptor yJ1_charAt_3b067.desc).map (fun d => d.parameters.length) = some 2 := by decide +kernel
set_option maxHeartbeats 4000000 in
set_option maxRecDepth 100000 in
theorem c_J0_charAt_5068e (l : Launch) (G : GG) (Z : AM) (i : Nat) (j : Nat) (hi : i < 15) (hj : j < (txB i).length) : Met l yJ0_charAt_5068e wsJ0_charAt_5068e { frames := 3, cells := 0, slots := 0, locals := 64 } (aP G Z [.ref (zK Z i), .int (nI j)] (fun H => True)) (roQ (some (.int (nI ((txB i).getD j 0))))) 0 0 nF := by
  refine Met.ofW (cc := cJ0_charAt_5068e) (maxL := 2) (ret := (some .char)) (by decide) rfl ?_
  intro p e s m args below meth c s₁ Bd hml hv
  obtain ⟨rfl, hK, hZ, hB⟩ := hv
  have hx := Bd.exec
  have hb := Bd.bytes
  have hr := Bd.returns
  have hts := atoms_spec (ws := wsJ0_charAt_5068e) Bd.pre
  have hown : s.vm.findClass RJ0 = some m.cls := findClass_of_methodNamed Bd.named
  have hlocks := Bd.notSynchronized
  have hC : CallFix p m c cJ0_charAt_5068e 2 s _ wsJ0_charAt_5068e RJ0 := ⟨hx, hb, hml, hown, hts⟩
  have hl := lv_entry ([.ref (zK Z i), .int (nI j)]) (n := 2) (Nat.le_of_ble_eq_true rfl)
  rw [lg_entry_eq]
  generalize (lg_sl ([.ref (zK Z i), .int (nI j)]) ++ List.replicate (2 - (lg_sl ([.ref (zK Z i), .int (nI j)])).length) Slot.unset).toArray = ls at hl ⊢
  have hl : lv_has ls 2 [(0, .ref (zK Z i)), (1, .int (nI j))] := hl
  refine lv_aload_n hx hb dJ0_charAt_5068e_0 rfl (lv_at hl 0 rfl) ?_
  refine ro_call (va_runV (As := []) (rest := []) hC (c_J0_isLatin1_aae02 l G Z i hi) (cwV 0 hts gJ0_charAt_5068e_J0_isLatin1_aae02 rfl rfl rfl kd_J0_isLatin1_aae02 ⟨Nat.le_of_ble_eq_true rfl, Nat.le_of_ble_eq_true rfl⟩) (a_preT hK hZ hi trivial) rfl rfl hl.1 rfl (lv_room (Nat.le_of_ble_eq_true rfl)) dJ0_charAt_5068e_1 ⟨Nat.zero_le _, Nat.zero_le _⟩) ?_
  refine bz_eq (tgt := 16) hx hb dJ0_charAt_5068e_4 (by decide) (fun h_1 => ?_) (fun h_1 => ?_)
  · exact absurd rfl h_1
  · refine lv_aload_n hx hb dJ0_charAt_5068e_7 rfl (lv_at hl 0 rfl) ?_
    refine a_getf hx hb (hZ.1 _ hi).2.2.1 hts hown k_J0_charAt_5068e_fieldLink_9 rfl dJ0_charAt_5068e_8 ?_
    refine lv_iload_n hx hb dJ0_charAt_5068e_11 rfl (lv_at hl 1 rfl) ?_
    refine ro_call (va_runS (As := [.ref (zV Z i), .int (nI j)]) (rest := []) hC (c_J1_charAt_3b067 l G Z i j hi hj) (va_cwS 2 hts gJ0_charAt_5068e_J1_charAt_3b067 rfl rfl rfl kd_J1_charAt_3b067 ⟨Nat.le_of_ble_eq_true rfl, Nat.le_of_ble_eq_true rfl⟩) (a_preS hK hZ trivial) rfl rfl hl.1 rfl (lv_room (Nat.le_of_ble_eq_true rfl)) dJ0_charAt_5068e_12 ⟨Nat.zero_le _, Nat.zero_le _⟩) ?_
    exact ro_nret hx hb hr (ch_narrow _ (txB_get i j)) hlocks dJ0_charAt_5068e_15 (by rw [nI_clamp (by have := txB_len i; omega)]; exact ch_low _ (txB_get i j))
set_option maxHeartbeats 4000000 in
set_option maxRecDepth 100000 in
theorem c_J1_canEncode_9a6ad (l : Launch) (G : GG) (Z : AM) (i : Nat) (n : Nat) (hi : i < 15) (hn : n < 256) : Met l yJ1_canEncode_9a6ad wsJ1_canEncode_9a6ad { frames := 0, cells := 0, slots := 0, locals := 0 } (aP G Z [.int (nI n)] (fun H => True)) (roQ (some (.int (b2i (true))))) 0 0 nF := by
  refine Met.ofW (cc := cJ1_canEncode_9a6ad) (maxL := 1) (ret := (some .boolean)) (by decide) rfl ?_
  intro p e s m args below meth c s₁ Bd hml hv
  obtain ⟨rfl, hK, hZ, hB⟩ := hv
  have hx := Bd.exec
  have hb := Bd.bytes
  have hr := Bd.returns
  have hts := atoms_spec (ws := wsJ1_canEncode_9a6ad) Bd.pre
  have hown : s.vm.findClass RJ1 = some m.cls := findClass_of_methodNamed Bd.named
  have hlocks := Bd.notSynchronized
  have hC : CallFix p m c cJ1_canEncode_9a6ad 1 s _ wsJ1_canEncode_9a6ad RJ1 := ⟨hx, hb, hml, hown, hts⟩
  have hl := lv_entry ([.int (nI n)]) (n := 1) (Nat.le_of_ble_eq_true rfl)
  rw [lg_entry_eq]
  generalize (lg_sl ([.int (nI n)]) ++ List.replicate (1 - (lg_sl ([.int (nI n)])).length) Slot.unset).toArray = ls at hl ⊢
  have hl : lv_has ls 1 [(0, .int (nI n))] := hl
  refine lv_iload_n hx hb dJ1_canEncode_9a6ad_0 rfl (lv_at hl 0 rfl) ?_
  refine lv_if_lt (tgt := 15) hx hb dJ1_canEncode_9a6ad_1 (by decide) (fun h_1 => ?_) (fun h_1 => ?_)
  · exact absurd h_1 (nI_pos (by omega))
  · refine lv_iload_n hx hb dJ1_canEncode_9a6ad_4 rfl (lv_at hl 0 rfl) ?_
    refine lv_sipush (v := 255) hx hb dJ1_canEncode_9a6ad_5 (by decide +kernel) ?_
    refine lv_icmp_gt (tgt := 15) hx hb dJ1_canEncode_9a6ad_8 (by decide) (fun h_2 => ?_) (fun h_2 => ?_)
    · exact absurd h_2 (nI_nlt (a := 255) (b := n) (by omega) (by omega))
    · refine lv_iconst (v := 1) hx hb dJ1_canEncode_9a6ad_11 (by decide) ?_
      refine lv_goto (tgt := 16) hx hb dJ1_canEncode_9a6ad_12 (by decide) ?_
      exact ro_zret hx hb hr hlocks dJ1_canEncode_9a6ad_16 rfl
def j_ix (i ch : Nat) : Nat → Nat → Int32
  | 0, _ => (-1)
  | n + 1, k => if (nI ((txB i).getD (nI k).toNatClampNeg 0)) = ((nI ch : Int32).toInt8.toInt32) then nI k else j_ix i ch n (k + 1) 
theorem j_ix_0 (i ch : Nat) (k : Nat)  : j_ix i ch 0 k  = ((-1)) := rfl
theorem j_ix_s (i ch : Nat) (n k : Nat)  : j_ix i ch (n + 1) k  = (if (nI ((txB i).getD (nI k).toNatClampNeg 0)) = ((nI ch : Int32).toInt8.toInt32) then nI k else j_ix i ch n (k + 1) ) := rfl
set_option maxHeartbeats 4000000 in
set_option maxRecDepth 100000 in
theorem c_J1_indexOfChar_4cfef (l : Launch) (G : GG) (Z : AM) (i : Nat) (ch : Nat) (hi : i < 15) : Met l yJ1_indexOfChar_4cfef wsJ1_indexOfChar_4cfef { frames := 0, cells := 0, slots := 0, locals := 0 } (aP G Z [.ref (zV Z i), .int (nI ch), .int 0, .int (nI (txB i).length)] (fun H => True)) (roQ (some (.int (j_ix i ch (txB i).length 0)))) 0 0 nF := by
  refine Met.ofW (cc := cJ1_indexOfChar_4cfef) (maxL := 6) (ret := (some .int)) (by decide) rfl ?_
  intro p e s m args below meth c s₁ Bd hml hv
  obtain ⟨rfl, hK, hZ, hB⟩ := hv
  have hx := Bd.exec
  have hb := Bd.bytes
  have hr := Bd.returns
  have hts := atoms_spec (ws := wsJ1_indexOfChar_4cfef) Bd.pre
  have hown : s.vm.findClass RJ1 = some m.cls := findClass_of_methodNamed Bd.named
  have hlocks := Bd.notSynchronized
  have hC : CallFix p m c cJ1_indexOfChar_4cfef 6 s _ wsJ1_indexOfChar_4cfef RJ1 := ⟨hx, hb, hml, hown, hts⟩
  have hl := lv_entry ([.ref (zV Z i), .int (nI ch), .int 0, .int (nI (txB i).length)]) (n := 6) (Nat.le_of_ble_eq_true rfl)
  rw [lg_entry_eq]
  generalize (lg_sl ([.ref (zV Z i), .int (nI ch), .int 0, .int (nI (txB i).length)]) ++ List.replicate (6 - (lg_sl ([.ref (zV Z i), .int (nI ch), .int 0, .int (nI (txB i).length)])).length) Slot.unset).toArray = ls at hl ⊢
  have hl : lv_has ls 6 [(0, .ref (zV Z i)), (1, .int (nI ch)), (2, .int 0), (3, .int (nI (txB i).length))] := hl
  refine lv_iload_n hx hb dJ1_indexOfChar_4cfef_0 rfl (lv_at hl 1 rfl) ?_
  refine lv_i2b (v := (nI ch : Int32).toInt8.toInt32) hx hb dJ1_indexOfChar_4cfef_1 rfl ?_
  refine lv_istore (lv' := [(4, .int ((nI ch : Int32).toInt8.toInt32)), (0, .ref (zV Z i)), (1, .int (nI ch)), (2, .int 0), (3, .int (nI (txB i).length))]) hx hb dJ1_indexOfChar_4cfef_2 hl (by decide) rfl (fun ls hl => ?_)
  refine lv_iload_n hx hb dJ1_indexOfChar_4cfef_4 rfl (lv_at hl 3 rfl) ?_
  refine lv_istore (lv' := [(5, .int 0), (4, .int ((nI ch : Int32).toInt8.toInt32)), (0, .ref (zV Z i)), (1, .int (nI ch)), (2, .int 0), (3, .int (nI (txB i).length))]) hx hb dJ1_indexOfChar_4cfef_5 hl (by decide) rfl (fun ls hl => ?_)
  refine loop_at (nL := 6) (α := Nat) (fun a9 => [(0, .ref (zV Z i)), (1, .int (nI ch)), (2, .int 0), (3, .int (nI (txB i).length)), (4, .int ((nI ch : Int32).toInt8.toInt32)), (5, .int (nI a9))]) (fun a9 => a9 ≤ (txB i).length ∧ j_ix i ch (((txB i).length) - a9) a9  = j_ix i ch ((txB i).length) 0 ) (fun a9 => (txB i).length - a9) 0 ⟨(by first | exact Nat.zero_le _ | decide | omega), rfl⟩ (lv_sub hl [2, 3, 4, 5, 1, 0] rfl) (fun a9 hI9 ih_k ls hl => ?_)
  obtain ⟨k, rfl⟩ : ∃ z, z = a9 := ⟨_, rfl⟩
  obtain ⟨hk_k, hV⟩ : k ≤ (txB i).length ∧ j_ix i ch (((txB i).length) - k) k  = j_ix i ch ((txB i).length) 0  := hI9
  have hl : lv_has ls 6 [(0, .ref (zV Z i)), (1, .int (nI ch)), (2, .int 0), (3, .int (nI (txB i).length)), (4, .int ((nI ch : Int32).toInt8.toInt32)), (5, .int (nI k))] := hl
  refine lv_iload hx hb dJ1_indexOfChar_4cfef_7 (lv_at hl 5 rfl) ?_
  refine lv_iload_n hx hb dJ1_indexOfChar_4cfef_9 rfl (lv_at hl 3 rfl) ?_
  refine lv_icmp_ge (tgt := 31) hx hb dJ1_indexOfChar_4cfef_10 (by decide) (fun h_1 => ?_) (fun h_1 => ?_)
  · have hN_k : k = (txB i).length := ge_ex (N := (txB i).length) rfl h_1 hk_k (by have := txB_len i; omega)
    subst hN_k
    rw [Nat.sub_self] at hV
    refine lv_iconst (v := (-1)) hx hb dJ1_indexOfChar_4cfef_31 (by decide) ?_
    exact ro_iret hx hb hr hlocks dJ1_indexOfChar_4cfef_32 (by (try unfold None); rw [← hV, j_ix_0]; first | done | rfl)
  · have hlt_k : k < (txB i).length := ge_in (N := (txB i).length) rfl h_1 hk_k (by have := txB_len i; omega)
    obtain ⟨n9, hn9⟩ : ∃ n9, ((txB i).length) - k = n9 + 1 := ⟨((txB i).length) - k - 1, by omega⟩
    rw [hn9] at hV
    refine lv_aload_n hx hb dJ1_indexOfChar_4cfef_13 rfl (lv_at hl 0 rfl) ?_
    refine lv_iload hx hb dJ1_indexOfChar_4cfef_14 (lv_at hl 5 rfl) ?_
    refine a_bald hx hb (hZ.1 _ hi).2.2.2 (vp_in_nI hlt_k (by have := txB_len i; omega)) dJ1_indexOfChar_4cfef_16 ?_
    refine lv_iload hx hb dJ1_indexOfChar_4cfef_17 (lv_at hl 4 rfl) ?_
    refine lv_icmp_ne (tgt := 25) hx hb dJ1_indexOfChar_4cfef_19 (by decide) (fun h_2 => ?_) (fun h_2 => ?_)
    · refine lv_iinc (v := (nI k) + 1) (lv' := [(5, .int ((nI k) + 1)), (0, .ref (zV Z i)), (1, .int (nI ch)), (2, .int 0), (3, .int (nI (txB i).length)), (4, .int ((nI ch : Int32).toInt8.toInt32))]) hx hb dJ1_indexOfChar_4cfef_25 hl (k := 5) rfl rfl (by decide) rfl (fun ls hl => ?_)
      refine lv_goto (tgt := 7) hx hb dJ1_indexOfChar_4cfef_28 (by decide) ?_
      have hE : j_ix i ch n9 (k + 1)  = j_ix i ch ((txB i).length) 0  := (by rw [← hV, j_ix_s]; (repeat rw [if_neg h_2]); first | done | rfl)
      refine ih_k (k + 1) ⟨(show k + 1 ≤ (txB i).length by omega), (by show j_ix i ch (((txB i).length) - (k + 1)) (k + 1)  = _; rw [show ((txB i).length) - (k + 1) = n9 by omega]; exact hE)⟩ (show ((txB i).length) - (k + 1) < ((txB i).length) - k by omega) ls ?_
      show lv_has ls 6 [(0, .ref (zV Z i)), (1, .int (nI ch)), (2, .int 0), (3, .int (nI (txB i).length)), (4, .int ((nI ch : Int32).toInt8.toInt32)), (5, .int (nI (k + 1)))]
      rw [nI_succ]
      exact lv_sub hl [1, 2, 3, 4, 5, 0] rfl
    · refine lv_iload hx hb dJ1_indexOfChar_4cfef_22 (lv_at hl 5 rfl) ?_
      exact ro_iret hx hb hr hlocks dJ1_indexOfChar_4cfef_24 (by (try unfold None); rw [← hV, j_ix_s]; (repeat rw [if_neg h_1]); (repeat rw [if_pos h_2]); first | done | rfl)
theorem txB_pos (i : Nat) : 0 < (txB i).length := by
  unfold txB
  split <;> decide
theorem k_J1_indexOf_4cfef_methodLink_92 : Cond.methodLink RJ1 92 Lib.Math.max.name ∈ wsJ1_indexOf_4cfef := by decide +kernel
theorem k_J1_indexOf_4cfef_mst_92 : Cond.static Lib.Math.max.name ∈ wsJ1_indexOf_4cfef := by decide +kernel
theorem k_J1_indexOf_4cfef_min_92 : Cond.initialized "java/lang/Math" ∈ wsJ1_indexOf_4cfef := by decide +kernel
theorem k_J1_indexOf_4cfef_mco_92 : Cond.code Lib.Math.max.name Lib.Math.max.code 2 (some .int) ∈ wsJ1_indexOf_4cfef := by decide +kernel
theorem k_J1_indexOf_4cfef_methodLink_38 : Cond.methodLink RJ1 38 Lib.Math.min.name ∈ wsJ1_indexOf_4cfef := by decide +kernel
theorem k_J1_indexOf_4cfef_mst_38 : Cond.static Lib.Math.min.name ∈ wsJ1_indexOf_4cfef := by decide +kernel
theorem k_J1_indexOf_4cfef_min_38 : Cond.initialized "java/lang/Math" ∈ wsJ1_indexOf_4cfef := by decide +kernel
theorem k_J1_indexOf_4cfef_mco_38 : Cond.code Lib.Math.min.name Lib.Math.min.code 2 (some .int) ∈ wsJ1_indexOf_4cfef := by decide +kernel
theorem kd_J1_canEncode_9a6ad : yJ1_canEncode_9a6ad.cls ≠ "java/lang/invoke/MethodHandle" ∧ yJ1_canEncode_9a6ad.cls ≠ "java/lang/invoke/VarHandle" ∧ (parseMethodDescriptor yJ1_canEncode_9a6ad.desc).map (fun d => d.parameters.length) = some 1 := by decide +kernel
theorem kd_J1_indexOfChar_4cfef : yJ1_indexOfChar_4cfef.cls ≠ "java/lang/invoke/MethodHandle" ∧ yJ1_indexOfChar_4cfef.cls ≠ "java/lang/invoke/VarHandle" ∧ (parseMethodDescriptor yJ1_indexOfChar_4cfef.desc).map (fun d => d.parameters.length) = some 4 := by decide +kernel
set_option maxHeartbeats 4000000 in
set_option maxRecDepth 100000 in
theorem c_J1_indexOf_4cfef (l : Launch) (G : GG) (Z : AM) (i : Nat) (ch : Nat) (hi : i < 15) (hn : ch < 256) : Met l yJ1_indexOf_4cfef wsJ1_indexOf_4cfef { frames := 1, cells := 0, slots := 0, locals := 40 } (aP G Z [.ref (zV Z i), .int (nI ch), .int 0, .int (nI (txB i).length)] (fun H => True)) (roQ (some (.int (j_ix i ch (txB i).length 0)))) 0 0 nF := by
  refine Met.ofW (cc := cJ1_indexOf_4cfef) (maxL := 4) (ret := (some .int)) (by decide) rfl ?_
  intro p e s m args below meth c s₁ Bd hml hv
  obtain ⟨rfl, hK, hZ, hB⟩ := hv
  have hx := Bd.exec
  have hb := Bd.bytes
  have hr := Bd.returns
  have hts := atoms_spec (ws := wsJ1_indexOf_4cfef) Bd.pre
  have hown : s.vm.findClass RJ1 = some m.cls := findClass_of_methodNamed Bd.named
  have hlocks := Bd.notSynchronized
  have hC : CallFix p m c cJ1_indexOf_4cfef 4 s _ wsJ1_indexOf_4cfef RJ1 := ⟨hx, hb, hml, hown, hts⟩
  have hl := lv_entry ([.ref (zV Z i), .int (nI ch), .int 0, .int (nI (txB i).length)]) (n := 4) (Nat.le_of_ble_eq_true rfl)
  rw [lg_entry_eq]
  generalize (lg_sl ([.ref (zV Z i), .int (nI ch), .int 0, .int (nI (txB i).length)]) ++ List.replicate (4 - (lg_sl ([.ref (zV Z i), .int (nI ch), .int 0, .int (nI (txB i).length)])).length) Slot.unset).toArray = ls at hl ⊢
  have hl : lv_has ls 4 [(0, .ref (zV Z i)), (1, .int (nI ch)), (2, .int 0), (3, .int (nI (txB i).length))] := hl
  refine lv_iload_n hx hb dJ1_indexOf_4cfef_0 rfl (lv_at hl 1 rfl) ?_
  refine ro_call (va_runS (As := [.int (nI ch)]) (rest := []) hC (c_J1_canEncode_9a6ad l G Z i ch hi hn) (va_cwS 1 hts gJ1_indexOf_4cfef_J1_canEncode_9a6ad rfl rfl rfl kd_J1_canEncode_9a6ad ⟨Nat.le_of_ble_eq_true rfl, Nat.le_of_ble_eq_true rfl⟩) (a_preS hK hZ trivial) rfl rfl hl.1 rfl (lv_room (Nat.le_of_ble_eq_true rfl)) dJ1_indexOf_4cfef_1 ⟨Nat.zero_le _, Nat.zero_le _⟩) ?_
  refine bz_ne (tgt := 9) hx hb dJ1_indexOf_4cfef_4 (by decide) (fun h_1 => ?_) (fun h_1 => ?_)
  · refine lv_iload_n hx hb dJ1_indexOf_4cfef_9 rfl (lv_at hl 2 rfl) ?_
    refine lv_iconst (v := 0) hx hb dJ1_indexOf_4cfef_10 (by decide) ?_
    refine va_mmax hx hb (hml.trans hl.1.symm) hown (hts _ k_J1_indexOf_4cfef_methodLink_92) (hts _ k_J1_indexOf_4cfef_mst_92) (hts _ k_J1_indexOf_4cfef_min_92) (hts _ k_J1_indexOf_4cfef_mco_92) (Nat.le_of_ble_eq_true rfl) (Nat.le_of_ble_eq_true rfl) (Nat.zero_le _) (Nat.zero_le _) dJ1_indexOf_4cfef_11 ?_
    refine lv_topi (fun z9 ez9 => ?_)
    have ez8 : z9 = 0 := ez9.trans (ite_self _)
    clear ez9
    subst ez8
    refine lv_istore_n (lv' := [(2, .int 0), (0, .ref (zV Z i)), (1, .int (nI ch)), (3, .int (nI (txB i).length))]) hx hb dJ1_indexOf_4cfef_14 rfl hl (by decide) rfl (fun ls hl => ?_)
    refine lv_iload_n hx hb dJ1_indexOf_4cfef_15 rfl (lv_at hl 3 rfl) ?_
    refine lv_aload_n hx hb dJ1_indexOf_4cfef_16 rfl (lv_at hl 1 rfl) ?_
    refine a_alen hx hb (hZ.1 _ hi).2.2.2 dJ1_indexOf_4cfef_17 ?_
    refine va_mmin hx hb (hml.trans hl.1.symm) hown (hts _ k_J1_indexOf_4cfef_methodLink_38) (hts _ k_J1_indexOf_4cfef_mst_38) (hts _ k_J1_indexOf_4cfef_min_38) (hts _ k_J1_indexOf_4cfef_mco_38) (Nat.le_of_ble_eq_true rfl) (Nat.le_of_ble_eq_true rfl) (Nat.zero_le _) (Nat.zero_le _) dJ1_indexOf_4cfef_18 ?_
    refine lv_topi (fun z9 ez9 => ?_)
    have ez8 : z9 = nI (txB i).length := ez9.trans (ite_self _)
    clear ez9
    subst ez8
    refine lv_istore_n (lv' := [(3, .int (nI (txB i).length)), (2, .int 0), (0, .ref (zV Z i)), (1, .int (nI ch))]) hx hb dJ1_indexOf_4cfef_21 rfl hl (by decide) rfl (fun ls hl => ?_)
    refine lv_iload_n hx hb dJ1_indexOf_4cfef_22 rfl (lv_at hl 1 rfl) ?_
    refine lv_iload_n hx hb dJ1_indexOf_4cfef_23 rfl (lv_at hl 0 rfl) ?_
    refine lv_icmp_lt (tgt := 29) hx hb dJ1_indexOf_4cfef_24 (by decide) (fun h_2 => ?_) (fun h_2 => ?_)
    · refine lv_aload_n hx hb dJ1_indexOf_4cfef_29 rfl (lv_at hl 2 rfl) ?_
      refine lv_iload_n hx hb dJ1_indexOf_4cfef_30 rfl (lv_at hl 3 rfl) ?_
      refine lv_iload_n hx hb dJ1_indexOf_4cfef_31 rfl (lv_at hl 1 rfl) ?_
      refine lv_iload_n hx hb dJ1_indexOf_4cfef_32 rfl (lv_at hl 0 rfl) ?_
      refine ro_call (va_runS (As := [.ref (zV Z i), .int (nI ch), .int 0, .int (nI (txB i).length)]) (rest := []) hC (c_J1_indexOfChar_4cfef l G Z i ch hi) (va_cwS 4 hts gJ1_indexOf_4cfef_J1_indexOfChar_4cfef rfl rfl rfl kd_J1_indexOfChar_4cfef ⟨Nat.le_of_ble_eq_true rfl, Nat.le_of_ble_eq_true rfl⟩) (a_preS hK hZ trivial) rfl rfl hl.1 rfl (lv_room (Nat.le_of_ble_eq_true rfl)) dJ1_indexOf_4cfef_33 ⟨Nat.zero_le _, Nat.zero_le _⟩) ?_
      exact ro_iret hx hb hr hlocks dJ1_indexOf_4cfef_36 rfl
    · exact absurd (nI_lt (a := 0) (txB_pos i) (by have := txB_len i; omega)) h_2
  · exact absurd rfl h_1
theorem k_J0_indexOf_7cf53_fieldLink_9 : Cond.fieldLink RJ0 9 "java/lang/String" "value" "[B" ∈ wsJ0_indexOf_7cf53 := by decide +kernel
theorem kd_J0_length_8abf5 : yJ0_length_8abf5.cls = RJ0 ∧ yJ0_length_8abf5.cls ≠ "java/lang/invoke/MethodHandle" ∧ yJ0_length_8abf5.cls ≠ "java/lang/invoke/VarHandle" ∧ (parseMethodDescriptor yJ0_length_8abf5.desc).map (fun d => d.parameters.length) = some 0 := by decide +kernel
theorem kd_J1_indexOf_4cfef : yJ1_indexOf_4cfef.cls ≠ "java/lang/invoke/MethodHandle" ∧ yJ1_indexOf_4cfef.cls ≠ "java/lang/invoke/VarHandle" ∧ (parseMethodDescriptor yJ1_indexOf_4cfef.desc).map (fun d => d.parameters.length) = some 4 := by decide +kernel
set_option maxHeartbeats 4000000 in
set_option maxRecDepth 100000 in
theorem c_J0_indexOf_7cf53 (l : Launch) (G : GG) (Z : AM) (i : Nat) (ch : Nat) (hi : i < 15) (hn : ch < 256) : Met l yJ0_indexOf_7cf53 wsJ0_indexOf_7cf53 { frames := 2, cells := 0, slots := 0, locals := 63 } (aP G Z [.ref (zK Z i), .int (nI ch), .int 0] (fun H => True)) (roQ (some (.int (j_ix i ch (txB i).length 0)))) 0 0 nF := by
  refine Met.ofW (cc := cJ0_indexOf_7cf53) (maxL := 3) (ret := (some .int)) (by decide) rfl ?_
  intro p e s m args below meth c s₁ Bd hml hv
  obtain ⟨rfl, hK, hZ, hB⟩ := hv
  have hx := Bd.exec
  have hb := Bd.bytes
  have hr := Bd.returns
  have hts := atoms_spec (ws := wsJ0_indexOf_7cf53) Bd.pre
  have hown : s.vm.findClass RJ0 = some m.cls := findClass_of_methodNamed Bd.named
  have hlocks := Bd.notSynchronized
  have hC : CallFix p m c cJ0_indexOf_7cf53 3 s _ wsJ0_indexOf_7cf53 RJ0 := ⟨hx, hb, hml, hown, hts⟩
  have hl := lv_entry ([.ref (zK Z i), .int (nI ch), .int 0]) (n := 3) (Nat.le_of_ble_eq_true rfl)
  rw [lg_entry_eq]
  generalize (lg_sl ([.ref (zK Z i), .int (nI ch), .int 0]) ++ List.replicate (3 - (lg_sl ([.ref (zK Z i), .int (nI ch), .int 0])).length) Slot.unset).toArray = ls at hl ⊢
  have hl : lv_has ls 3 [(0, .ref (zK Z i)), (1, .int (nI ch)), (2, .int 0)] := hl
  refine lv_aload_n hx hb dJ0_indexOf_7cf53_0 rfl (lv_at hl 0 rfl) ?_
  refine ro_call (va_runV (As := []) (rest := []) hC (c_J0_isLatin1_aae02 l G Z i hi) (cwV 0 hts gJ0_indexOf_7cf53_J0_isLatin1_aae02 rfl rfl rfl kd_J0_isLatin1_aae02 ⟨Nat.le_of_ble_eq_true rfl, Nat.le_of_ble_eq_true rfl⟩) (a_preT hK hZ hi trivial) rfl rfl hl.1 rfl (lv_room (Nat.le_of_ble_eq_true rfl)) dJ0_indexOf_7cf53_1 ⟨Nat.zero_le _, Nat.zero_le _⟩) ?_
  refine bz_eq (tgt := 23) hx hb dJ0_indexOf_7cf53_4 (by decide) (fun h_1 => ?_) (fun h_1 => ?_)
  · exact absurd rfl h_1
  · refine lv_aload_n hx hb dJ0_indexOf_7cf53_7 rfl (lv_at hl 0 rfl) ?_
    refine a_getf hx hb (hZ.1 _ hi).2.2.1 hts hown k_J0_indexOf_7cf53_fieldLink_9 rfl dJ0_indexOf_7cf53_8 ?_
    refine lv_iload_n hx hb dJ0_indexOf_7cf53_11 rfl (lv_at hl 1 rfl) ?_
    refine lv_iload_n hx hb dJ0_indexOf_7cf53_12 rfl (lv_at hl 2 rfl) ?_
    refine lv_aload_n hx hb dJ0_indexOf_7cf53_13 rfl (lv_at hl 0 rfl) ?_
    refine ro_call (va_runV (As := []) (rest := [.int 0, .int (nI ch), .ref (zV Z i)]) hC (c_J0_length_8abf5 l G Z i hi) (cwV 0 hts gJ0_indexOf_7cf53_J0_length_8abf5 rfl rfl rfl kd_J0_length_8abf5 ⟨Nat.le_of_ble_eq_true rfl, Nat.le_of_ble_eq_true rfl⟩) (a_preT hK hZ hi trivial) rfl rfl hl.1 rfl (lv_room (Nat.le_of_ble_eq_true rfl)) dJ0_indexOf_7cf53_14 ⟨Nat.zero_le _, Nat.zero_le _⟩) ?_
    refine ro_call (va_runS (As := [.ref (zV Z i), .int (nI ch), .int 0, .int (nI (txB i).length)]) (rest := []) hC (c_J1_indexOf_4cfef l G Z i ch hi hn) (va_cwS 4 hts gJ0_indexOf_7cf53_J1_indexOf_4cfef rfl rfl rfl kd_J1_indexOf_4cfef ⟨Nat.le_of_ble_eq_true rfl, Nat.le_of_ble_eq_true rfl⟩) (a_preS hK hZ trivial) rfl rfl hl.1 rfl (lv_room (Nat.le_of_ble_eq_true rfl)) dJ0_indexOf_7cf53_17 ⟨Nat.zero_le _, Nat.zero_le _⟩) ?_
    refine lv_goto (tgt := 36) hx hb dJ0_indexOf_7cf53_20 (by decide) ?_
    exact ro_iret hx hb hr hlocks dJ0_indexOf_7cf53_36 rfl
theorem kd_J0_indexOf_7cf53 : yJ0_indexOf_7cf53.cls = RJ0 ∧ yJ0_indexOf_7cf53.cls ≠ "java/lang/invoke/MethodHandle" ∧ yJ0_indexOf_7cf53.cls ≠ "java/lang/invoke/VarHandle" ∧ (parseMethodDescriptor yJ0_indexOf_7cf53.desc).map (fun d => d.parameters.length) = some 2 := by decide +kernel
set_option maxHeartbeats 4000000 in
set_option maxRecDepth 100000 in
theorem c_J0_indexOf_0f7a4 (l : Launch) (G : GG) (Z : AM) (i : Nat) (ch : Nat) (hi : i < 15) (hn : ch < 256) : Met l yJ0_indexOf_0f7a4 wsJ0_indexOf_0f7a4 { frames := 3, cells := 0, slots := 0, locals := 85 } (aP G Z [.ref (zK Z i), .int (nI ch)] (fun H => True)) (roQ (some (.int (j_ix i ch (txB i).length 0)))) 0 0 nF := by
  refine Met.ofW (cc := cJ0_indexOf_0f7a4) (maxL := 2) (ret := (some .int)) (by decide) rfl ?_
  intro p e s m args below meth c s₁ Bd hml hv
  obtain ⟨rfl, hK, hZ, hB⟩ := hv
  have hx := Bd.exec
  have hb := Bd.bytes
  have hr := Bd.returns
  have hts := atoms_spec (ws := wsJ0_indexOf_0f7a4) Bd.pre
  have hown : s.vm.findClass RJ0 = some m.cls := findClass_of_methodNamed Bd.named
  have hlocks := Bd.notSynchronized
  have hC : CallFix p m c cJ0_indexOf_0f7a4 2 s _ wsJ0_indexOf_0f7a4 RJ0 := ⟨hx, hb, hml, hown, hts⟩
  have hl := lv_entry ([.ref (zK Z i), .int (nI ch)]) (n := 2) (Nat.le_of_ble_eq_true rfl)
  rw [lg_entry_eq]
  generalize (lg_sl ([.ref (zK Z i), .int (nI ch)]) ++ List.replicate (2 - (lg_sl ([.ref (zK Z i), .int (nI ch)])).length) Slot.unset).toArray = ls at hl ⊢
  have hl : lv_has ls 2 [(0, .ref (zK Z i)), (1, .int (nI ch))] := hl
  refine lv_aload_n hx hb dJ0_indexOf_0f7a4_0 rfl (lv_at hl 0 rfl) ?_
  refine lv_iload_n hx hb dJ0_indexOf_0f7a4_1 rfl (lv_at hl 1 rfl) ?_
  refine lv_iconst (v := 0) hx hb dJ0_indexOf_0f7a4_2 (by decide) ?_
  refine ro_call (va_runV (As := [.int (nI ch), .int 0]) (rest := []) hC (c_J0_indexOf_7cf53 l G Z i ch hi hn) (cwV 2 hts gJ0_indexOf_0f7a4_J0_indexOf_7cf53 rfl rfl rfl kd_J0_indexOf_7cf53 ⟨Nat.le_of_ble_eq_true rfl, Nat.le_of_ble_eq_true rfl⟩) (a_preT hK hZ hi trivial) rfl rfl hl.1 rfl (lv_room (Nat.le_of_ble_eq_true rfl)) dJ0_indexOf_0f7a4_3 ⟨Nat.zero_le _, Nat.zero_le _⟩) ?_
  exact ro_iret hx hb hr hlocks dJ0_indexOf_0f7a4_6 rfl

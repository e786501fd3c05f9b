theorem i_X3_append_X3 : ∀ w ∈ wsX30, w ∈ wsX3_append := fun _ h => List.mem_cons_of_mem _ (List.mem_append_right _ h)
theorem k_X3_append_fieldLink_15 : Cond.fieldLink RX3 15 "SameWater$Tape" "size" "I" ∈ wsX3_append := by decide +kernel
theorem k_X3_append_fieldLink_9 : Cond.fieldLink RX3 9 "SameWater$Tape" "bytes" "[B" ∈ wsX3_append := by decide +kernel
def q_appGo (wv : Int64) : Nat → Nat → (Nat → Int32) → Bool × Nat × (Nat → Int32)
  | 0, sz_k, bt_k => (true, sz_k, bt_k)
  | k + 1, sz_k, bt_k => if 120 ≤ (nI sz_k) then (true, sz_k, bt_k) else q_appGo wv k (sz_k + 1) (upd bt_k (nI sz_k).toNatClampNeg (vp_nar .byte (((wv >>> ((8 * (nI k) : Int32).toInt64 &&& 63) : Int64).toInt32 : Int32).toInt8.toInt32)))
theorem q_appGo_0 (wv : Int64) (sz_k : Nat) (bt_k : Nat → Int32) : q_appGo wv 0 sz_k bt_k = ((true, sz_k, bt_k)) := rfl
theorem q_appGo_s (wv : Int64) (k : Nat) (sz_k : Nat) (bt_k : Nat → Int32) : q_appGo wv (k + 1) sz_k bt_k = (if 120 ≤ (nI sz_k) then (true, sz_k, bt_k) else q_appGo wv k (sz_k + 1) (upd bt_k (nI sz_k).toNatClampNeg (vp_nar .byte (((wv >>> ((8 * (nI k) : Int32).toInt64 &&& 63) : Int64).toInt32 : Int32).toInt8.toInt32)))) := rfl
def q_append (wv : Int64) (nn : Nat) (sz : Nat) (bt : Nat → Int32) : Bool × Nat × (Nat → Int32) := if ((nI sz) + (nI nn)) ≤ 120 then q_appGo wv nn sz bt else (false, sz, bt)
set_option maxHeartbeats 4000000 in
set_option maxRecDepth 100000 in
theorem c_X3_append (l : Launch) (G : GG) (t0 t1 pl : Nat) (wv : Int64) (nn : Nat) (sz : Nat) (bt : Nat → Int32) (htt : t0 ≠ t1) (hnn : nn ≤ 8) : Met l yX3_append wsX3_append { frames := 0, cells := 0, slots := 0, locals := 0 } (roP G [.ref t0, .long wv, .int (nI nn)] (fun H => TpAt G t0 t1 (sz, pl, bt) H)) (wrQ (some (.int (b2i ((q_append wv nn sz bt).1)))) (fun H => TpAt G t0 t1 ((q_append wv nn sz bt).2.1, pl, (q_append wv nn sz bt).2.2) H) (fun q => q = t0 ∨ q = t1)) 0 0 (fun q => q = t0 ∨ q = t1) := by
  refine Met.ofW (cc := cX3_append) (maxL := 5) (ret := (some .boolean)) (by decide) rfl ?_
  intro p e s m args below meth c s₁ Bd hml hv
  obtain ⟨rfl, hK, hB⟩ := hv
  have hx := Bd.exec
  have hb := Bd.bytes
  have hr := Bd.returns
  have hts := atoms_spec (ws := wsX3_append) Bd.pre
  have hown : s.vm.findClass RX3 = some m.cls := findClass_of_methodNamed Bd.named
  have hlocks := Bd.notSynchronized
  have hC : CallFix p m c cX3_append 5 s _ wsX3_append RX3 := ⟨hx, hb, hml, hown, hts⟩
  have hl := lv_entry ([.ref t0, .long wv, .int (nI nn)]) (n := 5) (Nat.le_of_ble_eq_true rfl)
  rw [lg_entry_eq]
  generalize (lg_sl ([.ref t0, .long wv, .int (nI nn)]) ++ List.replicate (5 - (lg_sl ([.ref t0, .long wv, .int (nI nn)])).length) Slot.unset).toArray = ls at hl ⊢
  have hl : lv_has ls 5 [(0, .ref t0), (1, .long wv), (3, .int (nI nn))] := hl
  have hS : wS (fun q => q = t0 ∨ q = t1) s.heap s.heap [] := wS.rf
  have f_s := hB
  have hZ := trivial
  refine lv_aload_n hx hb dX3_append_0 rfl (lv_at hl 0 rfl) ?_
  refine r_get (C := RX3) (T := TX3) (N := 3) hx hb hts i_X3_append_X3 hown hK f_s.1 rfl 1 (by decide) k_X3_append_fieldLink_15 rfl rfl dX3_append_1 ?_
  refine lv_iload_n hx hb dX3_append_4 rfl (lv_at hl 2 rfl) ?_
  refine lv_iadd hx hb dX3_append_5 ?_
  refine lv_bipush (v := 120) hx hb dX3_append_6 (by decide +kernel) ?_
  refine lv_icmp_le (tgt := 13) hx hb dX3_append_8 (by decide) (fun h_1 => ?_) (fun h_1 => ?_)
  · refine lv_iload_n hx hb dX3_append_13 rfl (lv_at hl 2 rfl) ?_
    refine lv_iconst (v := 1) hx hb dX3_append_14 (by decide) ?_
    refine lv_isub hx hb dX3_append_15 ?_
    refine lv_istore (lv' := [(4, .int ((nI nn) - 1)), (0, .ref t0), (1, .long wv), (3, .int (nI nn))]) hx hb dX3_append_16 hl (by decide) rfl (fun ls hl => ?_)
    refine loop_wr (nL := 5) (α := Nat × Nat × (Nat → Int32)) (fun a9 => [(0, .ref t0), (1, .long wv), (3, .int (nI nn)), (4, .int (nI (a9.1) - 1))]) (fun a9 H locs => (a9.1 ≤ 8 ∧ q_appGo wv a9.1 a9.2.1 a9.2.2 = q_appGo wv nn sz bt) ∧ (TpAt G t0 t1 ((a9.2.1), pl, (a9.2.2)) H) ∧ wS (fun q => q = t0 ∨ q = t1) s.heap H locs ∧ True) (fun a9 => a9.1) (nn, sz, bt) ⟨⟨hnn, rfl⟩, f_s, hS, hZ⟩ (lv_sub hl [1, 2, 3, 0] rfl) (fun a9 H locs hI9 ih_k ls hl => ?_)
    obtain ⟨k, sz_k, bt_k⟩ := a9
    obtain ⟨hI9, f_s, hS, hZ⟩ := hI9
    have f_s : TpAt G t0 t1 (sz_k, pl, bt_k) H := f_s
    obtain ⟨hk_k, hV⟩ : k ≤ 8 ∧ q_appGo wv k sz_k bt_k = q_appGo wv nn sz bt := hI9
    have hl : lv_has ls 5 [(0, .ref t0), (1, .long wv), (3, .int (nI nn)), (4, .int (nI k - 1))] := hl
    obtain rfl | ⟨k, rfl⟩ : k = 0 ∨ ∃ m, k = m + 1 := by cases k with | zero => exact .inl rfl | succ n => exact .inr ⟨n, rfl⟩
    · rw [show nI 0 - 1 = -1 from by decide] at hl
      have hl : lv_has ls 5 [(0, .ref t0), (1, .long wv), (3, .int (nI nn)), (4, .int (-1))] := hl
      refine lv_iload hx hb dX3_append_18 (lv_at hl 3 rfl) ?_
      refine lv_if_lt (tgt := 66) hx hb dX3_append_20 (by decide) (fun h_2 => ?_) (fun h_2 => ?_)
      · refine lv_iconst (v := 1) hx hb dX3_append_66 (by decide) ?_
        have hE9 : q_append wv nn sz bt = (true, sz_k, bt_k) := (by (try unfold q_append); (repeat rw [if_pos h_1]); rw [← hV, q_appGo_0]; (repeat rw [if_pos h_2]); first | done | rfl)
        exact wr_zret hx hb hr hlocks dX3_append_67 hS (by rw [hE9]; exact f_s) (by rw [hE9]; first | done | rfl)
      · exact absurd (by decide) h_2
    · rw [show nI (k + 1) - 1 = nI k from by rw [nI_succ]; exact Int32.add_sub_cancel (nI k) 1] at hl
      have hl : lv_has ls 5 [(0, .ref t0), (1, .long wv), (3, .int (nI nn)), (4, .int (nI k))] := hl
      refine lv_iload hx hb dX3_append_18 (lv_at hl 3 rfl) ?_
      refine lv_if_lt (tgt := 66) hx hb dX3_append_20 (by decide) (fun h_3 => ?_) (fun h_3 => ?_)
      · exact absurd h_3 (nI_pos (by omega))
      · refine lv_aload_n hx hb dX3_append_23 rfl (lv_at hl 0 rfl) ?_
        refine r_get (C := RX3) (T := TX3) (N := 3) hx hb hts i_X3_append_X3 hown hK f_s.1 rfl 1 (by decide) k_X3_append_fieldLink_15 rfl rfl dX3_append_24 ?_
        refine lv_bipush (v := 120) hx hb dX3_append_27 (by decide +kernel) ?_
        refine lv_icmp_ge (tgt := 66) hx hb dX3_append_29 (by decide) (fun h_4 => ?_) (fun h_4 => ?_)
        · refine lv_iconst (v := 1) hx hb dX3_append_66 (by decide) ?_
          have hE9 : q_append wv nn sz bt = (true, sz_k, bt_k) := (by (try unfold q_append); (repeat rw [if_pos h_1]); rw [← hV, q_appGo_s]; (repeat rw [if_neg h_3]); (repeat rw [if_pos h_4]); first | done | rfl)
          exact wr_zret hx hb hr hlocks dX3_append_67 hS (by rw [hE9]; exact f_s) (by rw [hE9]; first | done | rfl)
        · refine lv_aload_n hx hb dX3_append_32 rfl (lv_at hl 0 rfl) ?_
          refine r_get (C := RX3) (T := TX3) (N := 3) hx hb hts i_X3_append_X3 hown hK f_s.1 rfl 0 (by decide) k_X3_append_fieldLink_9 rfl rfl dX3_append_33 ?_
          refine lv_aload_n hx hb dX3_append_36 rfl (lv_at hl 0 rfl) ?_
          refine r_get (C := RX3) (T := TX3) (N := 3) hx hb hts i_X3_append_X3 hown hK f_s.1 rfl 1 (by decide) k_X3_append_fieldLink_15 rfl rfl dX3_append_37 ?_
          refine lv_lload_n hx hb dX3_append_40 rfl (lv_at hl 1 rfl) ?_
          refine lv_bipush (v := 8) hx hb dX3_append_41 (by decide +kernel) ?_
          refine lv_iload hx hb dX3_append_43 (lv_at hl 3 rfl) ?_
          refine lv_imul hx hb dX3_append_45 ?_
          refine lv_lshr (v := wv >>> ((8 * (nI k) : Int32).toInt64 &&& 63)) hx hb dX3_append_46 rfl ?_
          refine lv_l2i (v := (wv >>> ((8 * (nI k) : Int32).toInt64 &&& 63) : Int64).toInt32) hx hb dX3_append_47 rfl ?_
          refine lv_i2b (v := ((wv >>> ((8 * (nI k) : Int32).toInt64 &&& 63) : Int64).toInt32 : Int32).toInt8.toInt32) hx hb dX3_append_48 rfl ?_
          refine w_bast hx hb hK f_s.2.1 hS (Or.inr rfl) (vp_of (n := 120) rfl (nI_pos (by have := f_s.2.2.1; omega)) h_4 (by decide)) dX3_append_49 (fun H locs hn hq hS => ?_)
          have f_s : TpAt G t0 t1 (sz_k, pl, upd bt_k (nI sz_k).toNatClampNeg (vp_nar .byte (((wv >>> ((8 * (nI k) : Int32).toInt64 &&& 63) : Int64).toInt32 : Int32).toInt8.toInt32))) H := ⟨f_s.1.kept (hq _ htt), hn, f_s.2.2⟩
          refine lv_aload_n hx hb dX3_append_50 rfl (lv_at hl 0 rfl) ?_
          refine lv_dup hx hb dX3_append_51 rfl ?_
          refine r_get (C := RX3) (T := TX3) (N := 3) hx hb hts i_X3_append_X3 hown hK f_s.1 rfl 1 (by decide) k_X3_append_fieldLink_15 rfl rfl dX3_append_52 ?_
          refine lv_iconst (v := 1) hx hb dX3_append_55 (by decide) ?_
          refine lv_iadd hx hb dX3_append_56 ?_
          refine w_put (C := RX3) (T := TX3) (N := 3) hx hb hts i_X3_append_X3 tyX3 tyX3_ok nmX3 hown hK f_s.1 hS (Or.inl rfl) rfl 1 (by decide) k_X3_append_fieldLink_15 rfl rfl rfl rfl (Nat.le_of_ble_eq_true rfl) dX3_append_57 (fun H locs hn hq hS => ?_)
          have f_s : TpAt G t0 t1 (sz_k + 1, pl, (upd bt_k (nI sz_k).toNatClampNeg (vp_nar .byte (((wv >>> ((8 * (nI k) : Int32).toInt64 &&& 63) : Int64).toInt32 : Int32).toInt8.toInt32)))) H := ⟨by rw [show nI (sz_k + 1, pl, (upd bt_k (nI sz_k).toNatClampNeg (vp_nar .byte (((wv >>> ((8 * (nI k) : Int32).toInt64 &&& 63) : Int64).toInt32 : Int32).toInt8.toInt32)))).1 = nI sz_k + 1 from nI_succ _]; exact hn, f_s.2.1.kept (hq _ htt.symm), sc_lt h_4 f_s.2.2.1, f_s.2.2.2⟩
          refine lv_iinc (v := (nI k) + (-1)) (lv' := [(4, .int ((nI k) + (-1))), (0, .ref t0), (1, .long wv), (3, .int (nI nn))]) hx hb dX3_append_60 hl (k := 3) rfl rfl (by decide) rfl (fun ls hl => ?_)
          refine lv_goto (tgt := 18) hx hb dX3_append_63 (by decide) ?_
          have hE : q_appGo wv k (sz_k + 1) (upd bt_k (nI sz_k).toNatClampNeg (vp_nar .byte (((wv >>> ((8 * (nI k) : Int32).toInt64 &&& 63) : Int64).toInt32 : Int32).toInt8.toInt32))) = q_appGo wv nn sz bt := (by rw [← hV, q_appGo_s]; (repeat rw [if_neg h_3]); (repeat rw [if_neg h_4]); first | done | rfl)
          refine ih_k (k, (sz_k + 1), (upd bt_k (nI sz_k).toNatClampNeg (vp_nar .byte (((wv >>> ((8 * (nI k) : Int32).toInt64 &&& 63) : Int64).toInt32 : Int32).toInt8.toInt32)))) _ _ ⟨⟨(by omega), hE⟩, f_s, hS, hZ⟩ (show k < k + 1 by omega) ls ?_
          show lv_has ls 5 [(0, .ref t0), (1, .long wv), (3, .int (nI nn)), (4, .int (nI k - 1))]
          rw [Int32.sub_eq_add_neg (nI k) 1]
          exact lv_sub hl [1, 2, 3, 0] rfl
  · refine lv_iconst (v := 0) hx hb dX3_append_11 (by decide) ?_
    have hE9 : q_append wv nn sz bt = (false, sz, bt) := (by (try unfold q_append); (repeat rw [if_neg h_1]); first | done | rfl)
    exact wr_zret hx hb hr hlocks dX3_append_12 hS (by rw [hE9]; exact f_s) (by rw [hE9]; first | done | rfl)
theorem c2_X3_append (l : Launch) (G : GG) (t0 t1 pl : Nat) (wv : Int64) (nn : Nat) (sz : Nat) (bt : Nat → Int32) (htt : t0 ≠ t1) (hnn : nn ≤ 8) (b9 : Bool) (sz9 : Nat) (bt9 : Nat → Int32) (hy9 : q_append wv nn sz bt = (b9, sz9, bt9)) : Met l yX3_append wsX3_append { frames := 0, cells := 0, slots := 0, locals := 0 } (roP G [.ref t0, .long wv, .int (nI nn)] (fun H => TpAt G t0 t1 (sz, pl, bt) H)) (wrQ (some (.int (b2i b9))) (fun H => TpAt G t0 t1 (sz9, pl, bt9) H) (fun q => q = t0 ∨ q = t1)) 0 0 (fun q => q = t0 ∨ q = t1) := by
  have h9 := c_X3_append l G t0 t1 pl wv nn sz bt htt hnn
  rw [hy9] at h9
  exact h9
theorem i_X4_copy_X4 : ∀ w ∈ wsX40, w ∈ wsX4_copy := fun _ h => List.mem_cons_of_mem _ (List.mem_append_left _ (List.mem_append_left _ (List.mem_append_left _ (List.mem_append_right _ h))))
theorem k_X4_copy_fieldLink_14 : Cond.fieldLink RX4 14 "SameWater$World" "children" "LSameWater$Rows;" ∈ wsX4_copy := by decide +kernel
theorem k_X4_copy_fieldLink_20 : Cond.fieldLink RX4 20 "SameWater$World" "askings" "LSameWater$Rows;" ∈ wsX4_copy := by decide +kernel
theorem k_X4_copy_fieldLink_23 : Cond.fieldLink RX4 23 "SameWater$World" "answers" "LSameWater$Rows;" ∈ wsX4_copy := by decide +kernel
theorem k_X4_copy_fieldLink_29 : Cond.fieldLink RX4 29 "SameWater$World" "tape" "LSameWater$Tape;" ∈ wsX4_copy := by decide +kernel
theorem k_X4_copy_fieldLink_47 : Cond.fieldLink RX4 47 "SameWater$World" "lawCount" "I" ∈ wsX4_copy := by decide +kernel
theorem k_X4_copy_fieldLink_35 : Cond.fieldLink RX4 35 "SameWater$World" "laws" "[LSameWater$Law;" ∈ wsX4_copy := by decide +kernel
theorem kd_X3_copy : yX3_copy.cls = RX3 ∧ yX3_copy.cls ≠ "java/lang/invoke/MethodHandle" ∧ yX3_copy.cls ≠ "java/lang/invoke/VarHandle" ∧ (parseMethodDescriptor yX3_copy.desc).map (fun d => d.parameters.length) = some 1 := by decide +kernel
theorem kd_X1_copy : yX1_copy.cls = RX1 ∧ yX1_copy.cls ≠ "java/lang/invoke/MethodHandle" ∧ yX1_copy.cls ≠ "java/lang/invoke/VarHandle" ∧ (parseMethodDescriptor yX1_copy.desc).map (fun d => d.parameters.length) = some 1 := by decide +kernel
def u_copyGo (we : WT) : Nat → Nat → WT → WT
  | 0, _, wd_k => wd_k
  | n + 1, k, wd_k => u_copyGo we n (k + 1) (wSetLw wd_k k (wLw we k))
theorem u_copyGo_0 (we : WT) (k : Nat) (wd_k : WT) : u_copyGo we 0 k wd_k = (wd_k) := rfl
theorem u_copyGo_s (we : WT) (n k : Nat) (wd_k : WT) : u_copyGo we (n + 1) k wd_k = (u_copyGo we n (k + 1) (wSetLw wd_k k (wLw we k))) := rfl
def u_copy (wd we : WT) : WT := u_copyGo we (wLc we) 0 (wSetLc (wSetTp (wSetAn (wSetAs (wSetCh wd (wCh we)) (wAs we)) (wAn we)) ((wTp we).1, (wTp (wSetAn (wSetAs (wSetCh wd (wCh we)) (wAs we)) (wAn we))).2.1, (wTp we).2.2)) (wLc we))
set_option maxHeartbeats 4000000 in
set_option maxRecDepth 100000 in
theorem c_X4_copy (l : Launch) (G : GG) (ad bd : Nat → Nat) (wd we : WT) (hN : wN ad) (hD : ∀ i j : Nat, i < 50 → j < 50 → bd j ≠ ad i) (hby : byF (wTp we).2.2) : Met l yX4_copy wsX4_copy { frames := 3, cells := 0, slots := 0, locals := 102 } (roP G [.ref (ad 0), .ref (bd 0)] (fun H => WAt G ad wd H ∧ WAt G bd we H)) (wrQ none (fun H => WAt G ad (u_copy wd we) H ∧ WAt G bd we H) (wA ad)) 0 0 (wA ad) := by
  refine Met.ofW (cc := cX4_copy) (maxL := 3) (ret := none) (by decide) rfl ?_
  intro p e s m args below meth c s₁ Bd hml hv
  obtain ⟨rfl, hK, hB⟩ := hv
  have hx := Bd.exec
  have hb := Bd.bytes
  have hr := Bd.returns
  have hts := atoms_spec (ws := wsX4_copy) Bd.pre
  have hown : s.vm.findClass RX4 = some m.cls := findClass_of_methodNamed Bd.named
  have hlocks := Bd.notSynchronized
  have hC : CallFix p m c cX4_copy 3 s _ wsX4_copy RX4 := ⟨hx, hb, hml, hown, hts⟩
  have hl := lv_entry ([.ref (ad 0), .ref (bd 0)]) (n := 3) (Nat.le_of_ble_eq_true rfl)
  rw [lg_entry_eq]
  generalize (lg_sl ([.ref (ad 0), .ref (bd 0)]) ++ List.replicate (3 - (lg_sl ([.ref (ad 0), .ref (bd 0)])).length) Slot.unset).toArray = ls at hl ⊢
  have hl : lv_has ls 3 [(0, .ref (ad 0)), (1, .ref (bd 0))] := hl
  have hS : wS (wA ad) s.heap s.heap [] := wS.rf
  have f_s := hB
  have hZ := trivial
  have hsz9 : wLc we ≤ 8 := f_s.2.2.2.2.2.2.2.2
  refine lv_aload_n hx hb dX4_copy_0 rfl (lv_at hl 0 rfl) ?_
  refine r_get (C := RX4) (T := TX4) (N := 6) hx hb hts i_X4_copy_X4 hown hK f_s.1.1 rfl 0 (by decide) k_X4_copy_fieldLink_14 rfl rfl dX4_copy_1 ?_
  refine lv_aload_n hx hb dX4_copy_4 rfl (lv_at hl 1 rfl) ?_
  refine r_get (C := RX4) (T := TX4) (N := 6) hx hb hts i_X4_copy_X4 hown hK f_s.2.1 rfl 0 (by decide) k_X4_copy_fieldLink_14 rfl rfl dX4_copy_5 ?_
  refine wr_callv (va_runV (As := [.ref (bd 1)]) (rest := []) hC (c_X2_copy l G (ad 1) (ad 2) (bd 1) (bd 2) 8 5 (wCh wd) (wCh we) (hN 1 2 (by decide) (by decide) (by decide)) ⟨hD 1 1 (by decide) (by decide), hD 1 2 (by decide) (by decide), hD 2 1 (by decide) (by decide), hD 2 2 (by decide) (by decide)⟩) (cwV 1 hts gX4_copy_X2_copy rfl rfl rfl kd_X2_copy ⟨Nat.le_of_ble_eq_true rfl, Nat.le_of_ble_eq_true rfl⟩) (ro_preV hK f_s.1.2.1.1 rfl ⟨f_s.1.2.1, f_s.2.2.1⟩) rfl rfl hl.1 rfl (lv_room (Nat.le_of_ble_eq_true rfl)) dX4_copy_8 ⟨Nat.zero_le _, Nat.zero_le _⟩) hS (fun q h => h.elim (fun e => e ▸ wA.in ad 1 (by decide)) (fun e => e ▸ wA.in ad 2 (by decide))) (fun H locs f_n hq hS => ?_)
  have f_s := (⟨f_s.1.setCh hN f_n hq, f_s.2.kept (fun j hj => hq _ (fun z => z.elim (hD 1 j (by decide) hj) (hD 2 j (by decide) hj)))⟩ : WAt G ad (wSetCh wd (wCh we)) H ∧ WAt G bd we H)
  refine lv_aload_n hx hb dX4_copy_11 rfl (lv_at hl 0 rfl) ?_
  refine r_get (C := RX4) (T := TX4) (N := 6) hx hb hts i_X4_copy_X4 hown hK f_s.1.1 rfl 1 (by decide) k_X4_copy_fieldLink_20 rfl rfl dX4_copy_12 ?_
  refine lv_aload_n hx hb dX4_copy_15 rfl (lv_at hl 1 rfl) ?_
  refine r_get (C := RX4) (T := TX4) (N := 6) hx hb hts i_X4_copy_X4 hown hK f_s.2.1 rfl 1 (by decide) k_X4_copy_fieldLink_20 rfl rfl dX4_copy_16 ?_
  refine wr_callv (va_runV (As := [.ref (bd 3)]) (rest := []) hC (c_X2_copy l G (ad 3) (ad 4) (bd 3) (bd 4) 16 7 (wAs (wSetCh wd (wCh we))) (wAs we) (hN 3 4 (by decide) (by decide) (by decide)) ⟨hD 3 3 (by decide) (by decide), hD 3 4 (by decide) (by decide), hD 4 3 (by decide) (by decide), hD 4 4 (by decide) (by decide)⟩) (cwV 1 hts gX4_copy_X2_copy rfl rfl rfl kd_X2_copy ⟨Nat.le_of_ble_eq_true rfl, Nat.le_of_ble_eq_true rfl⟩) (ro_preV hK f_s.1.2.2.1.1 rfl ⟨f_s.1.2.2.1, f_s.2.2.2.1⟩) rfl rfl hl.1 rfl (lv_room (Nat.le_of_ble_eq_true rfl)) dX4_copy_19 ⟨Nat.zero_le _, Nat.zero_le _⟩) hS (fun q h => h.elim (fun e => e ▸ wA.in ad 3 (by decide)) (fun e => e ▸ wA.in ad 4 (by decide))) (fun H locs f_n hq hS => ?_)
  have f_s := (⟨f_s.1.setAs hN f_n hq, f_s.2.kept (fun j hj => hq _ (fun z => z.elim (hD 3 j (by decide) hj) (hD 4 j (by decide) hj)))⟩ : WAt G ad (wSetAs (wSetCh wd (wCh we)) (wAs we)) H ∧ WAt G bd we H)
  refine lv_aload_n hx hb dX4_copy_22 rfl (lv_at hl 0 rfl) ?_
  refine r_get (C := RX4) (T := TX4) (N := 6) hx hb hts i_X4_copy_X4 hown hK f_s.1.1 rfl 2 (by decide) k_X4_copy_fieldLink_23 rfl rfl dX4_copy_23 ?_
  refine lv_aload_n hx hb dX4_copy_26 rfl (lv_at hl 1 rfl) ?_
  refine r_get (C := RX4) (T := TX4) (N := 6) hx hb hts i_X4_copy_X4 hown hK f_s.2.1 rfl 2 (by decide) k_X4_copy_fieldLink_23 rfl rfl dX4_copy_27 ?_
  refine wr_callv (va_runV (As := [.ref (bd 5)]) (rest := []) hC (c_X2_copy l G (ad 5) (ad 6) (bd 5) (bd 6) 40 5 (wAn (wSetAs (wSetCh wd (wCh we)) (wAs we))) (wAn we) (hN 5 6 (by decide) (by decide) (by decide)) ⟨hD 5 5 (by decide) (by decide), hD 5 6 (by decide) (by decide), hD 6 5 (by decide) (by decide), hD 6 6 (by decide) (by decide)⟩) (cwV 1 hts gX4_copy_X2_copy rfl rfl rfl kd_X2_copy ⟨Nat.le_of_ble_eq_true rfl, Nat.le_of_ble_eq_true rfl⟩) (ro_preV hK f_s.1.2.2.2.1.1 rfl ⟨f_s.1.2.2.2.1, f_s.2.2.2.2.1⟩) rfl rfl hl.1 rfl (lv_room (Nat.le_of_ble_eq_true rfl)) dX4_copy_30 ⟨Nat.zero_le _, Nat.zero_le _⟩) hS (fun q h => h.elim (fun e => e ▸ wA.in ad 5 (by decide)) (fun e => e ▸ wA.in ad 6 (by decide))) (fun H locs f_n hq hS => ?_)
  have f_s := (⟨f_s.1.setAn hN f_n hq, f_s.2.kept (fun j hj => hq _ (fun z => z.elim (hD 5 j (by decide) hj) (hD 6 j (by decide) hj)))⟩ : WAt G ad (wSetAn (wSetAs (wSetCh wd (wCh we)) (wAs we)) (wAn we)) H ∧ WAt G bd we H)
  refine lv_aload_n hx hb dX4_copy_33 rfl (lv_at hl 0 rfl) ?_
  refine r_get (C := RX4) (T := TX4) (N := 6) hx hb hts i_X4_copy_X4 hown hK f_s.1.1 rfl 3 (by decide) k_X4_copy_fieldLink_29 rfl rfl dX4_copy_34 ?_
  refine lv_aload_n hx hb dX4_copy_37 rfl (lv_at hl 1 rfl) ?_
  refine r_get (C := RX4) (T := TX4) (N := 6) hx hb hts i_X4_copy_X4 hown hK f_s.2.1 rfl 3 (by decide) k_X4_copy_fieldLink_29 rfl rfl dX4_copy_38 ?_
  refine wr_callv (va_runV (As := [.ref (bd 7)]) (rest := []) hC (c_X3_copy l G (ad 7) (ad 8) (bd 7) (bd 8) (wTp (wSetAn (wSetAs (wSetCh wd (wCh we)) (wAs we)) (wAn we))) (wTp we) (hN 7 8 (by decide) (by decide) (by decide)) ⟨hD 7 7 (by decide) (by decide), hD 7 8 (by decide) (by decide), hD 8 7 (by decide) (by decide), hD 8 8 (by decide) (by decide)⟩ hby) (cwV 1 hts gX4_copy_X3_copy rfl rfl rfl kd_X3_copy ⟨Nat.le_of_ble_eq_true rfl, Nat.le_of_ble_eq_true rfl⟩) (ro_preV hK f_s.1.2.2.2.2.1.1 rfl ⟨f_s.1.2.2.2.2.1, f_s.2.2.2.2.2.1⟩) rfl rfl hl.1 rfl (lv_room (Nat.le_of_ble_eq_true rfl)) dX4_copy_41 ⟨Nat.zero_le _, Nat.zero_le _⟩) hS (fun q h => h.elim (fun e => e ▸ wA.in ad 7 (by decide)) (fun e => e ▸ wA.in ad 8 (by decide))) (fun H locs f_n hq hS => ?_)
  have f_s := (⟨f_s.1.setTp hN f_n hq, f_s.2.kept (fun j hj => hq _ (fun z => z.elim (hD 7 j (by decide) hj) (hD 8 j (by decide) hj)))⟩ : WAt G ad (wSetTp (wSetAn (wSetAs (wSetCh wd (wCh we)) (wAs we)) (wAn we)) ((wTp we).1, (wTp (wSetAn (wSetAs (wSetCh wd (wCh we)) (wAs we)) (wAn we))).2.1, (wTp we).2.2)) H ∧ WAt G bd we H)
  refine lv_aload_n hx hb dX4_copy_44 rfl (lv_at hl 0 rfl) ?_
  refine lv_aload_n hx hb dX4_copy_45 rfl (lv_at hl 1 rfl) ?_
  refine r_get (C := RX4) (T := TX4) (N := 6) hx hb hts i_X4_copy_X4 hown hK f_s.2.1 rfl 5 (by decide) k_X4_copy_fieldLink_47 rfl rfl dX4_copy_46 ?_
  refine w_put (C := RX4) (T := TX4) (N := 6) hx hb hts i_X4_copy_X4 tyX4 tyX4_ok nmX4 hown hK f_s.1.1 hS (wA.in ad 0 (by decide)) rfl 5 (by decide) k_X4_copy_fieldLink_47 rfl rfl rfl rfl (Nat.le_of_ble_eq_true rfl) dX4_copy_49 (fun H locs hn hq hS => ?_)
  have f_s := (⟨f_s.1.setLc hN f_s.2.2.2.2.2.2.2.2 hn hq, f_s.2.kept (fun j hj => hq _ (hD 0 j (by decide) hj))⟩ : WAt G ad (wSetLc (wSetTp (wSetAn (wSetAs (wSetCh wd (wCh we)) (wAs we)) (wAn we)) ((wTp we).1, (wTp (wSetAn (wSetAs (wSetCh wd (wCh we)) (wAs we)) (wAn we))).2.1, (wTp we).2.2)) (wLc we)) H ∧ WAt G bd we H)
  refine lv_iconst (v := 0) hx hb dX4_copy_52 (by decide) ?_
  refine lv_istore_n (lv' := [(2, .int 0), (0, .ref (ad 0)), (1, .ref (bd 0))]) hx hb dX4_copy_53 rfl hl (by decide) rfl (fun ls hl => ?_)
  refine loop_wr (nL := 3) (α := Nat × WT) (fun a9 => [(0, .ref (ad 0)), (1, .ref (bd 0)), (2, .int (nI (a9.1)))]) (fun a9 H locs => ((a9.1 ≤ (wLc we) ∧ u_copyGo we ((wLc we) - a9.1) a9.1 a9.2 = u_copyGo we (wLc we) 0 (wSetLc (wSetTp (wSetAn (wSetAs (wSetCh wd (wCh we)) (wAs we)) (wAn we)) ((wTp we).1, (wTp (wSetAn (wSetAs (wSetCh wd (wCh we)) (wAs we)) (wAn we))).2.1, (wTp we).2.2)) (wLc we))) ∧ (wLc (a9.2) = wLc we)) ∧ (WAt G ad (a9.2) H ∧ WAt G bd we H) ∧ wS (wA ad) s.heap H locs ∧ True) (fun a9 => (wLc we) - a9.1) (0, (wSetLc (wSetTp (wSetAn (wSetAs (wSetCh wd (wCh we)) (wAs we)) (wAn we)) ((wTp we).1, (wTp (wSetAn (wSetAs (wSetCh wd (wCh we)) (wAs we)) (wAn we))).2.1, (wTp we).2.2)) (wLc we))) ⟨⟨⟨(by first | exact Nat.zero_le _ | decide | omega), rfl⟩, rfl⟩, f_s, hS, hZ⟩ (lv_sub hl [1, 2, 0] rfl) (fun a9 H locs hI9 ih_k ls hl => ?_)
  obtain ⟨k, wd_k⟩ := a9
  obtain ⟨⟨hI9, hX9⟩, f_s, hS, hZ⟩ := hI9
  have hX9 : wLc wd_k = wLc we := hX9
  have f_s : WAt G ad wd_k H ∧ WAt G bd we H := f_s
  obtain ⟨hk_k, hV⟩ : k ≤ (wLc we) ∧ u_copyGo we ((wLc we) - k) k wd_k = u_copyGo we (wLc we) 0 (wSetLc (wSetTp (wSetAn (wSetAs (wSetCh wd (wCh we)) (wAs we)) (wAn we)) ((wTp we).1, (wTp (wSetAn (wSetAs (wSetCh wd (wCh we)) (wAs we)) (wAn we))).2.1, (wTp we).2.2)) (wLc we)) := hI9
  have hl : lv_has ls 3 [(0, .ref (ad 0)), (1, .ref (bd 0)), (2, .int (nI k))] := hl
  refine lv_iload_n hx hb dX4_copy_54 rfl (lv_at hl 2 rfl) ?_
  refine lv_aload_n hx hb dX4_copy_55 rfl (lv_at hl 0 rfl) ?_
  refine r_get (C := RX4) (T := TX4) (N := 6) hx hb hts i_X4_copy_X4 hown hK f_s.1.1 rfl 5 (by decide) k_X4_copy_fieldLink_47 rfl rfl dX4_copy_56 ?_
  refine lv_icmp_ge (tgt := 89) hx hb dX4_copy_59 (by decide) (fun h_1 => ?_) (fun h_1 => ?_)
  · have hN_k : k = (wLc we) := ge_ex (N := (wLc we)) (congrArg nI hX9) h_1 hk_k (by have := hsz9; omega)
    subst hN_k
    rw [Nat.sub_self] at hV
    have hE9 : u_copy wd we = wd_k := (by (try unfold u_copy); rw [← hV, u_copyGo_0]; first | done | rfl)
    exact wr_vret hx hb hr hlocks dX4_copy_89 hS (by rw [hE9]; exact f_s)
  · have hlt_k : k < (wLc we) := ge_in (N := (wLc we)) (congrArg nI hX9) h_1 hk_k (by have := hsz9; omega)
    obtain ⟨n9, hn9⟩ : ∃ n9, (wLc we) - k = n9 + 1 := ⟨(wLc we) - k - 1, by omega⟩
    rw [hn9] at hV
    refine lv_iload_n hx hb dX4_copy_62 rfl (lv_at hl 2 rfl) ?_
    refine lv_bipush (v := 8) hx hb dX4_copy_63 (by decide +kernel) ?_
    refine lv_icmp_ge (tgt := 89) hx hb dX4_copy_65 (by decide) (fun h_2 => ?_) (fun h_2 => ?_)
    · exact absurd h_2 (show ¬ nI 8 ≤ nI k from nI_ge (by have := f_s.2.2.2.2.2.2.2.2; omega) (by decide))
    · refine lv_aload_n hx hb dX4_copy_68 rfl (lv_at hl 0 rfl) ?_
      refine r_get (C := RX4) (T := TX4) (N := 6) hx hb hts i_X4_copy_X4 hown hK f_s.1.1 rfl 4 (by decide) k_X4_copy_fieldLink_35 rfl rfl dX4_copy_69 ?_
      refine lv_iload_n hx hb dX4_copy_72 rfl (lv_at hl 2 rfl) ?_
      have hk8 : k < 8 := (by have := f_s.2.2.2.2.2.2.2.2; omega)
      obtain ⟨qf, f_q, hqf⟩ := f_s.1.2.2.2.2.2.1
      refine r_qald hx hb hK f_q (vp_of (n := 8) rfl (nI_pos (by omega)) (show ¬ nI 8 ≤ nI k from nI_ge hk8 (by decide)) (by decide)) (show qf (nI k).toNatClampNeg = some (ad (10 + 5 * k)) by rw [nI_clamp (by omega)]; exact hqf k hk8) dX4_copy_73 ?_
      refine lv_aload_n hx hb dX4_copy_74 rfl (lv_at hl 1 rfl) ?_
      refine r_get (C := RX4) (T := TX4) (N := 6) hx hb hts i_X4_copy_X4 hown hK f_s.2.1 rfl 4 (by decide) k_X4_copy_fieldLink_35 rfl rfl dX4_copy_75 ?_
      refine lv_iload_n hx hb dX4_copy_78 rfl (lv_at hl 2 rfl) ?_
      have hk8 : k < 8 := (by have := f_s.2.2.2.2.2.2.2.2; omega)
      obtain ⟨qf, f_q, hqf⟩ := f_s.2.2.2.2.2.2.1
      refine r_qald hx hb hK f_q (vp_of (n := 8) rfl (nI_pos (by omega)) (show ¬ nI 8 ≤ nI k from nI_ge hk8 (by decide)) (by decide)) (show qf (nI k).toNatClampNeg = some (bd (10 + 5 * k)) by rw [nI_clamp (by omega)]; exact hqf k hk8) dX4_copy_79 ?_
      refine wr_callv (va_runV (As := [.ref (bd (10 + 5 * k))]) (rest := []) hC (c_X1_copy l G (fun j => ad (10 + 5 * k + j)) (fun j => bd (10 + 5 * k + j)) (wLw wd_k k) (wLw we k) (fun i j hi hj hne => hN _ _ (by omega) (by omega) (by omega)) (fun i j hi hj => hD _ _ (by omega) (by omega))) (cwV 1 hts gX4_copy_X1_copy rfl rfl rfl kd_X1_copy ⟨Nat.le_of_ble_eq_true rfl, Nat.le_of_ble_eq_true rfl⟩) (ro_preV hK (f_s.1.2.2.2.2.2.2.1 k hk8).1 rfl ⟨f_s.1.2.2.2.2.2.2.1 k hk8, f_s.2.2.2.2.2.2.2.1 k hk8⟩) rfl rfl hl.1 rfl (lv_room (Nat.le_of_ble_eq_true rfl)) dX4_copy_80 ⟨Nat.zero_le _, Nat.zero_le _⟩) hS (fun q ⟨j, hj, e⟩ => ⟨10 + 5 * k + j, by omega, e⟩) (fun H locs f_n hq hS => ?_)
      have f_s := (⟨f_s.1.setLw hN hk8 f_n hq, f_s.2.kept (fun j hj => hq _ (fun ⟨t, ht, e⟩ => hD (10 + 5 * k + t) j (by omega) hj e))⟩ : WAt G ad (wSetLw wd_k k (wLw we k)) H ∧ WAt G bd we H)
      refine lv_iinc (v := (nI k) + 1) (lv' := [(2, .int ((nI k) + 1)), (0, .ref (ad 0)), (1, .ref (bd 0))]) hx hb dX4_copy_83 hl (k := 2) rfl rfl (by decide) rfl (fun ls hl => ?_)
      refine lv_goto (tgt := 54) hx hb dX4_copy_86 (by decide) ?_
      have hE : u_copyGo we n9 (k + 1) (wSetLw wd_k k (wLw we k)) = u_copyGo we (wLc we) 0 (wSetLc (wSetTp (wSetAn (wSetAs (wSetCh wd (wCh we)) (wAs we)) (wAn we)) ((wTp we).1, (wTp (wSetAn (wSetAs (wSetCh wd (wCh we)) (wAs we)) (wAn we))).2.1, (wTp we).2.2)) (wLc we)) := (by rw [← hV, u_copyGo_s]; (repeat rw [if_neg h_2]); first | done | rfl)
      refine ih_k ((k + 1, (wSetLw wd_k k (wLw we k)))) _ _ ⟨⟨⟨(show k + 1 ≤ (wLc we) by omega), (by show u_copyGo we ((wLc we) - (k + 1)) (k + 1) (wSetLw wd_k k (wLw we k)) = _; rw [show (wLc we) - (k + 1) = n9 by omega]; exact hE)⟩, hX9⟩, f_s, hS, hZ⟩ (show (wLc we) - (k + 1) < (wLc we) - k by omega) ls ?_
      show lv_has ls 3 [(0, .ref (ad 0)), (1, .ref (bd 0)), (2, .int (nI (k + 1)))]
      rw [nI_succ]
      exact lv_sub hl [1, 2, 0] rfl

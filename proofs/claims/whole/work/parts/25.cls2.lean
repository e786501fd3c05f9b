def tyB : FieldType := .byte
theorem min_id {a b : Nat} (h : a ≤ b) (hb : b ≤ 64) : (if nI b < nI a then nI b else nI a) = nI a := if_neg (nI_nlt h (by omega))
def rcD (a0 b0 a1 b1 : Nat) : Prop := a1 ≠ a0 ∧ b1 ≠ a0 ∧ a1 ≠ b0 ∧ b1 ≠ b0
theorem nmnw_lt {nm nw : Nat} (h1 : nm ≤ 64) (h2 : nw ≤ 8) : nm * nw < 2 ^ 31 := Nat.lt_of_le_of_lt (Nat.mul_le_mul h1 h2) (by decide)
theorem i_X2_copy_X2 : ∀ w ∈ wsX20, w ∈ wsX2_copy := fun _ h => List.mem_cons_of_mem _ (List.mem_append_right _ h)
theorem k_X2_copy_fieldLink_22 : Cond.fieldLink RX2 22 "SameWater$Rows" "size" "I" ∈ wsX2_copy := by decide +kernel
theorem k_X2_copy_fieldLink_9 : Cond.fieldLink RX2 9 "SameWater$Rows" "most" "I" ∈ wsX2_copy := by decide +kernel
theorem k_X2_copy_methodLink_25 : Cond.methodLink RX2 25 Lib.Math.min.name ∈ wsX2_copy := by decide +kernel
theorem k_X2_copy_mst_25 : Cond.static Lib.Math.min.name ∈ wsX2_copy := by decide +kernel
theorem k_X2_copy_min_25 : Cond.initialized "java/lang/Math" ∈ wsX2_copy := by decide +kernel
theorem k_X2_copy_mco_25 : Cond.code Lib.Math.min.name Lib.Math.min.code 2 (some .int) ∈ wsX2_copy := by decide +kernel
theorem k_X2_copy_fieldLink_18 : Cond.fieldLink RX2 18 "SameWater$Rows" "cells" "[I" ∈ wsX2_copy := by decide +kernel
theorem k_X2_copy_methodLink_31 : Cond.methodLink RX2 31 arraycopyName ∈ wsX2_copy := by decide +kernel
theorem k_X2_copy_acnat : Cond.native arraycopyName ∈ wsX2_copy := by decide +kernel
theorem k_X2_copy_acsta : Cond.static arraycopyName ∈ wsX2_copy := by decide +kernel
theorem k_X2_copy_acini : Cond.initialized "java/lang/System" ∈ wsX2_copy := by decide +kernel
set_option maxHeartbeats 4000000 in
set_option maxRecDepth 100000 in
theorem c_X2_copy (l : Launch) (G : GG) (a0 b0 a1 b1 nm nw : Nat) (x y : RwT) (hne : a0 ≠ b0) (hd : rcD a0 b0 a1 b1) : Met l yX2_copy wsX2_copy { frames := 1, cells := 0, slots := 0, locals := 60 } (roP G [.ref a0, .ref a1] (fun H => RwAt G a0 b0 nm nw x H ∧ RwAt G a1 b1 nm nw y H)) (wrQ none (fun H => RwAt G a0 b0 nm nw y H) (fun q => q = a0 ∨ q = b0)) 0 0 (fun q => q = a0 ∨ q = b0) := by
  refine Met.ofW (cc := cX2_copy) (maxL := 2) (ret := none) (by decide) rfl ?_
  intro p e s m args below meth c s₁ Bd hml hv
  obtain ⟨rfl, hK, hB⟩ := hv
  have hx := Bd.exec
  have hb := Bd.bytes
  have hr := Bd.returns
  have hts := atoms_spec (ws := wsX2_copy) Bd.pre
  have hown : s.vm.findClass RX2 = some m.cls := findClass_of_methodNamed Bd.named
  have hlocks := Bd.notSynchronized
  have hC : CallFix p m c cX2_copy 2 s _ wsX2_copy RX2 := ⟨hx, hb, hml, hown, hts⟩
  have hl := lv_entry ([.ref a0, .ref a1]) (n := 2) (Nat.le_of_ble_eq_true rfl)
  rw [lg_entry_eq]
  generalize (lg_sl ([.ref a0, .ref a1]) ++ List.replicate (2 - (lg_sl ([.ref a0, .ref a1])).length) Slot.unset).toArray = ls at hl ⊢
  have hl : lv_has ls 2 [(0, .ref a0), (1, .ref a1)] := hl
  have hS : wS (fun q => q = a0 ∨ q = b0) s.heap s.heap [] := wS.rf
  obtain ⟨⟨f_a, f_b, w0, -, -⟩, f_y⟩ := hB
  have w1 := f_y.2.2.1
  have w2 := f_y.2.2.2.1
  have w3 := f_y.2.2.2.2
  refine lv_aload_n hx hb dX2_copy_0 rfl (lv_at hl 0 rfl) ?_
  refine lv_aload_n hx hb dX2_copy_1 rfl (lv_at hl 1 rfl) ?_
  refine r_get (C := RX2) (T := TX2) (N := 4) hx hb hts i_X2_copy_X2 hown hK f_y.1 rfl 3 (by decide) k_X2_copy_fieldLink_22 rfl rfl dX2_copy_2 ?_
  refine lv_aload_n hx hb dX2_copy_5 rfl (lv_at hl 0 rfl) ?_
  refine r_get (C := RX2) (T := TX2) (N := 4) hx hb hts i_X2_copy_X2 hown hK f_a rfl 0 (by decide) k_X2_copy_fieldLink_9 rfl rfl dX2_copy_6 ?_
  refine va_mmin hx hb (hml.trans hl.1.symm) hown (hts _ k_X2_copy_methodLink_25) (hts _ k_X2_copy_mst_25) (hts _ k_X2_copy_min_25) (hts _ k_X2_copy_mco_25) (Nat.le_of_ble_eq_true rfl) (Nat.le_of_ble_eq_true rfl) (Nat.zero_le _) (Nat.zero_le _) dX2_copy_9 ?_
  refine lv_topi (fun z9 ez9 => ?_)
  have ez8 : z9 = nI y.1 := ez9.trans (min_id w1 w2)
  clear ez9
  subst ez8
  refine w_put (C := RX2) (T := TX2) (N := 4) hx hb hts i_X2_copy_X2 tyX2 tyX2_ok nmX2 hown hK f_a hS (Or.inl rfl) rfl 3 (by decide) k_X2_copy_fieldLink_22 rfl rfl rfl rfl (Nat.le_of_ble_eq_true rfl) dX2_copy_12 (fun H locs hn hq hS => ?_)
  have f_a : oA G a0 2 [.int (nI nm), .int (nI nw), .ref b0, .int (nI y.1)] H := hn
  have f_b := f_b.kept (hq _ hne.symm)
  have f_y := f_y.kept (hq _ hd.1) (hq _ hd.2.1)
  refine lv_aload_n hx hb dX2_copy_15 rfl (lv_at hl 1 rfl) ?_
  refine r_get (C := RX2) (T := TX2) (N := 4) hx hb hts i_X2_copy_X2 hown hK f_y.1 rfl 2 (by decide) k_X2_copy_fieldLink_18 rfl rfl dX2_copy_16 ?_
  refine lv_iconst (v := 0) hx hb dX2_copy_19 (by decide) ?_
  refine lv_aload_n hx hb dX2_copy_20 rfl (lv_at hl 0 rfl) ?_
  refine r_get (C := RX2) (T := TX2) (N := 4) hx hb hts i_X2_copy_X2 hown hK f_a rfl 2 (by decide) k_X2_copy_fieldLink_18 rfl rfl dX2_copy_21 ?_
  refine lv_iconst (v := 0) hx hb dX2_copy_24 (by decide) ?_
  refine lv_aload_n hx hb dX2_copy_25 rfl (lv_at hl 1 rfl) ?_
  refine r_get (C := RX2) (T := TX2) (N := 4) hx hb hts i_X2_copy_X2 hown hK f_y.1 rfl 2 (by decide) k_X2_copy_fieldLink_18 rfl rfl dX2_copy_26 ?_
  refine r_alen hx hb hK f_y.2.1 dX2_copy_29 ?_
  refine lv_aload_n hx hb dX2_copy_30 rfl (lv_at hl 0 rfl) ?_
  refine r_get (C := RX2) (T := TX2) (N := 4) hx hb hts i_X2_copy_X2 hown hK f_a rfl 2 (by decide) k_X2_copy_fieldLink_18 rfl rfl dX2_copy_31 ?_
  refine r_alen hx hb hK f_b dX2_copy_34 ?_
  refine va_mmin hx hb (hml.trans hl.1.symm) hown (hts _ k_X2_copy_methodLink_25) (hts _ k_X2_copy_mst_25) (hts _ k_X2_copy_min_25) (hts _ k_X2_copy_mco_25) (Nat.le_of_ble_eq_true rfl) (Nat.le_of_ble_eq_true rfl) (Nat.zero_le _) (Nat.zero_le _) dX2_copy_35 ?_
  refine lv_topi (fun z9 ez9 => ?_)
  have ez8 : z9 = nI (nm * nw) := ez9.trans (ite_self _)
  clear ez9
  subst ez8
  refine w_copy (k := 1) (ty := .int) hx hb (hml.trans hl.1.symm) hts hown k_X2_copy_methodLink_31 k_X2_copy_acnat k_X2_copy_acsta k_X2_copy_acini hK rfl rfl hS (Or.inr rfl) f_y.2.1 f_b (nn9 := nm * nw) rfl (nmnw_lt w2 w3) (Nat.le_refl _) rfl (fun _ _ => rfl) (Nat.le_of_ble_eq_true rfl) (Nat.le_of_ble_eq_true rfl) dX2_copy_38 (fun H locs hn hq hS => ?_)
  have f_b := hn
  have f_a := f_a.kept (hq _ hne)
  have f_y := f_y.kept (hq _ hd.2.2.1) (hq _ hd.2.2.2)
  exact wr_vret hx hb hr hlocks dX2_copy_41 hS ⟨f_a, f_b, w1, w2, w3⟩
/-- the bytes of a tape are bytes -/
def byF (f : Nat → Int32) : Prop := ∀ j : Nat, j < 120 → fits .byte (.int (f j)) = true
theorem i_X3_copy_X3 : ∀ w ∈ wsX30, w ∈ wsX3_copy := fun _ h => List.mem_cons_of_mem _ (List.mem_append_right _ h)
theorem k_X3_copy_fieldLink_15 : Cond.fieldLink RX3 15 "SameWater$Tape" "size" "I" ∈ wsX3_copy := by decide +kernel
theorem k_X3_copy_fieldLink_9 : Cond.fieldLink RX3 9 "SameWater$Tape" "bytes" "[B" ∈ wsX3_copy := by decide +kernel
theorem k_X3_copy_methodLink_19 : Cond.methodLink RX3 19 arraycopyName ∈ wsX3_copy := by decide +kernel
theorem k_X3_copy_acnat : Cond.native arraycopyName ∈ wsX3_copy := by decide +kernel
theorem k_X3_copy_acsta : Cond.static arraycopyName ∈ wsX3_copy := by decide +kernel
theorem k_X3_copy_acini : Cond.initialized "java/lang/System" ∈ wsX3_copy := by decide +kernel
set_option maxHeartbeats 4000000 in
set_option maxRecDepth 100000 in
theorem c_X3_copy (l : Launch) (G : GG) (t0 t1 u0 u1 : Nat) (x y : TpT) (hne : t0 ≠ t1) (hd : rcD t0 t1 u0 u1) (hfit : byF y.2.2) : Met l yX3_copy wsX3_copy { frames := 1, cells := 0, slots := 0, locals := 60 } (roP G [.ref t0, .ref u0] (fun H => TpAt G t0 t1 x H ∧ TpAt G u0 u1 y H)) (wrQ none (fun H => TpAt G t0 t1 (y.1, x.2.1, y.2.2) H) (fun q => q = t0 ∨ q = t1)) 0 0 (fun q => q = t0 ∨ q = t1) := by
  refine Met.ofW (cc := cX3_copy) (maxL := 2) (ret := none) (by decide) rfl ?_
  intro p e s m args below meth c s₁ Bd hml hv
  obtain ⟨rfl, hK, hB⟩ := hv
  have hx := Bd.exec
  have hb := Bd.bytes
  have hr := Bd.returns
  have hts := atoms_spec (ws := wsX3_copy) Bd.pre
  have hown : s.vm.findClass RX3 = some m.cls := findClass_of_methodNamed Bd.named
  have hlocks := Bd.notSynchronized
  have hC : CallFix p m c cX3_copy 2 s _ wsX3_copy RX3 := ⟨hx, hb, hml, hown, hts⟩
  have hl := lv_entry ([.ref t0, .ref u0]) (n := 2) (Nat.le_of_ble_eq_true rfl)
  rw [lg_entry_eq]
  generalize (lg_sl ([.ref t0, .ref u0]) ++ List.replicate (2 - (lg_sl ([.ref t0, .ref u0])).length) Slot.unset).toArray = ls at hl ⊢
  have hl : lv_has ls 2 [(0, .ref t0), (1, .ref u0)] := hl
  have hS : wS (fun q => q = t0 ∨ q = t1) s.heap s.heap [] := wS.rf
  obtain ⟨⟨f_a, f_b, w0, w4⟩, f_y⟩ := hB
  have w1 := f_y.2.2.1
  refine lv_aload_n hx hb dX3_copy_0 rfl (lv_at hl 0 rfl) ?_
  refine lv_aload_n hx hb dX3_copy_1 rfl (lv_at hl 1 rfl) ?_
  refine r_get (C := RX3) (T := TX3) (N := 3) hx hb hts i_X3_copy_X3 hown hK f_y.1 rfl 1 (by decide) k_X3_copy_fieldLink_15 rfl rfl dX3_copy_2 ?_
  refine w_put (C := RX3) (T := TX3) (N := 3) hx hb hts i_X3_copy_X3 tyX3 tyX3_ok nmX3 hown hK f_a hS (Or.inl rfl) rfl 1 (by decide) k_X3_copy_fieldLink_15 rfl rfl rfl rfl (Nat.le_of_ble_eq_true rfl) dX3_copy_5 (fun H locs hn hq hS => ?_)
  have f_a : oA G t0 3 [.ref t1, .int (nI y.1), .int (nI x.2.1)] H := hn
  have f_b := f_b.kept (hq _ hne.symm)
  have f_y := f_y.kept (hq _ hd.1) (hq _ hd.2.1)
  refine lv_aload_n hx hb dX3_copy_8 rfl (lv_at hl 1 rfl) ?_
  refine r_get (C := RX3) (T := TX3) (N := 3) hx hb hts i_X3_copy_X3 hown hK f_y.1 rfl 0 (by decide) k_X3_copy_fieldLink_9 rfl rfl dX3_copy_9 ?_
  refine lv_iconst (v := 0) hx hb dX3_copy_12 (by decide) ?_
  refine lv_aload_n hx hb dX3_copy_13 rfl (lv_at hl 0 rfl) ?_
  refine r_get (C := RX3) (T := TX3) (N := 3) hx hb hts i_X3_copy_X3 hown hK f_a rfl 0 (by decide) k_X3_copy_fieldLink_9 rfl rfl dX3_copy_14 ?_
  refine lv_iconst (v := 0) hx hb dX3_copy_17 (by decide) ?_
  refine lv_bipush (v := 120) hx hb dX3_copy_18 (by decide +kernel) ?_
  refine w_copy (k := 0) (ty := .byte) hx hb (hml.trans hl.1.symm) hts hown k_X3_copy_methodLink_19 k_X3_copy_acnat k_X3_copy_acsta k_X3_copy_acini hK rfl rfl hS (Or.inr rfl) f_y.2.1 f_b (nn9 := 120) rfl (by decide) (Nat.le_refl _) rfl (fun j hj => hfit j hj) (Nat.le_of_ble_eq_true rfl) (Nat.le_of_ble_eq_true rfl) dX3_copy_20 (fun H locs hn hq hS => ?_)
  have f_b := hn
  have f_a := f_a.kept (hq _ hne)
  exact wr_vret hx hb hr hlocks dX3_copy_23 hS ⟨f_a, f_b, w1, w4⟩
def lwD (A B : Nat → Nat) : Prop := ∀ i j : Nat, i < 5 → j < 5 → B j ≠ A i
theorem i_X1_copy_X1 : ∀ w ∈ wsX10, w ∈ wsX1_copy := fun _ h => List.mem_cons_of_mem _ (List.mem_append_left _ (List.mem_append_right _ h))
theorem k_X1_copy_fieldLink_49 : Cond.fieldLink RX1 49 "SameWater$Law" "number" "I" ∈ wsX1_copy := by decide +kernel
theorem k_X1_copy_fieldLink_52 : Cond.fieldLink RX1 52 "SameWater$Law" "kind" "I" ∈ wsX1_copy := by decide +kernel
theorem k_X1_copy_fieldLink_55 : Cond.fieldLink RX1 55 "SameWater$Law" "v" "I" ∈ wsX1_copy := by decide +kernel
theorem k_X1_copy_fieldLink_27 : Cond.fieldLink RX1 27 "SameWater$Law" "slip" "I" ∈ wsX1_copy := by decide +kernel
theorem k_X1_copy_fieldLink_34 : Cond.fieldLink RX1 34 "SameWater$Law" "stepCount" "I" ∈ wsX1_copy := by decide +kernel
theorem k_X1_copy_fieldLink_20 : Cond.fieldLink RX1 20 "SameWater$Law" "overs" "LSameWater$Rows;" ∈ wsX1_copy := by decide +kernel
theorem k_X1_copy_fieldLink_11 : Cond.fieldLink RX1 11 "SameWater$Law" "from" "[I" ∈ wsX1_copy := by decide +kernel
theorem k_X1_copy_methodLink_62 : Cond.methodLink RX1 62 arraycopyName ∈ wsX1_copy := by decide +kernel
theorem k_X1_copy_acnat : Cond.native arraycopyName ∈ wsX1_copy := by decide +kernel
theorem k_X1_copy_acsta : Cond.static arraycopyName ∈ wsX1_copy := by decide +kernel
theorem k_X1_copy_acini : Cond.initialized "java/lang/System" ∈ wsX1_copy := by decide +kernel
theorem k_X1_copy_fieldLink_24 : Cond.fieldLink RX1 24 "SameWater$Law" "steps" "[I" ∈ wsX1_copy := by decide +kernel
theorem kd_X2_copy : yX2_copy.cls = RX2 ∧ yX2_copy.cls ≠ "java/lang/invoke/MethodHandle" ∧ yX2_copy.cls ≠ "java/lang/invoke/VarHandle" ∧ (parseMethodDescriptor yX2_copy.desc).map (fun d => d.parameters.length) = some 1 := by decide +kernel
set_option maxHeartbeats 4000000 in
set_option maxRecDepth 100000 in
theorem c_X1_copy (l : Launch) (G : GG) (A B : Nat → Nat) (x y : LawT) (hne : lwN A) (hd : lwD A B) : Met l yX1_copy wsX1_copy { frames := 2, cells := 0, slots := 0, locals := 81 } (roP G [.ref (A 0), .ref (B 0)] (fun H => LwAt G A x H ∧ LwAt G B y H)) (wrQ none (fun H => LwAt G A y H) (lwA A)) 0 0 (lwA A) := by
  refine Met.ofW (cc := cX1_copy) (maxL := 2) (ret := none) (by decide) rfl ?_
  intro p e s m args below meth c s₁ Bd hml hv
  obtain ⟨rfl, hK, hB⟩ := hv
  have hx := Bd.exec
  have hb := Bd.bytes
  have hr := Bd.returns
  have hts := atoms_spec (ws := wsX1_copy) Bd.pre
  have hown : s.vm.findClass RX1 = some m.cls := findClass_of_methodNamed Bd.named
  have hlocks := Bd.notSynchronized
  have hC : CallFix p m c cX1_copy 2 s _ wsX1_copy RX1 := ⟨hx, hb, hml, hown, hts⟩
  have hl := lv_entry ([.ref (A 0), .ref (B 0)]) (n := 2) (Nat.le_of_ble_eq_true rfl)
  rw [lg_entry_eq]
  generalize (lg_sl ([.ref (A 0), .ref (B 0)]) ++ List.replicate (2 - (lg_sl ([.ref (A 0), .ref (B 0)])).length) Slot.unset).toArray = ls at hl ⊢
  have hl : lv_has ls 2 [(0, .ref (A 0)), (1, .ref (B 0))] := hl
  have hS : wS (lwA A) s.heap s.heap [] := wS.rf
  obtain ⟨⟨f_0, f_1, f_r, f_4, w1⟩, f_y⟩ := hB
  have w2 := f_y.2.2.2.2
  refine lv_aload_n hx hb dX1_copy_0 rfl (lv_at hl 0 rfl) ?_
  refine lv_aload_n hx hb dX1_copy_1 rfl (lv_at hl 1 rfl) ?_
  refine r_get (C := RX1) (T := TX1) (N := 8) hx hb hts i_X1_copy_X1 hown hK f_y.1 rfl 0 (by decide) k_X1_copy_fieldLink_49 rfl rfl dX1_copy_2 ?_
  refine w_put (C := RX1) (T := TX1) (N := 8) hx hb hts i_X1_copy_X1 tyX1 tyX1_ok nmX1 hown hK f_0 hS (lwA.in A 0 (by decide)) rfl 0 (by decide) k_X1_copy_fieldLink_49 rfl rfl rfl rfl (Nat.le_of_ble_eq_true rfl) dX1_copy_5 (fun H locs hn hq hS => ?_)
  have f_0 : oA G (A 0) 1 [.int (lNum y), .int (lKind x), .int (lV x), .int (lSlip x), .ref (A 1), .ref (A 2), .ref (A 4), .int (nI (lSc x))] H := hn
  have f_1 := f_1.kept (hq _ (hne 1 0 (by decide) (by decide) (by decide)))
  have f_4 := f_4.kept (hq _ (hne 4 0 (by decide) (by decide) (by decide)))
  have f_r := f_r.kept (hq _ (hne 2 0 (by decide) (by decide) (by decide))) (hq _ (hne 3 0 (by decide) (by decide) (by decide)))
  have f_y := f_y.kept (fun j hj => hq _ (hd 0 j (by decide) hj))
  refine lv_aload_n hx hb dX1_copy_8 rfl (lv_at hl 0 rfl) ?_
  refine lv_aload_n hx hb dX1_copy_9 rfl (lv_at hl 1 rfl) ?_
  refine r_get (C := RX1) (T := TX1) (N := 8) hx hb hts i_X1_copy_X1 hown hK f_y.1 rfl 1 (by decide) k_X1_copy_fieldLink_52 rfl rfl dX1_copy_10 ?_
  refine w_put (C := RX1) (T := TX1) (N := 8) hx hb hts i_X1_copy_X1 tyX1 tyX1_ok nmX1 hown hK f_0 hS (lwA.in A 0 (by decide)) rfl 1 (by decide) k_X1_copy_fieldLink_52 rfl rfl rfl rfl (Nat.le_of_ble_eq_true rfl) dX1_copy_13 (fun H locs hn hq hS => ?_)
  have f_0 : oA G (A 0) 1 [.int (lNum y), .int (lKind y), .int (lV x), .int (lSlip x), .ref (A 1), .ref (A 2), .ref (A 4), .int (nI (lSc x))] H := hn
  have f_1 := f_1.kept (hq _ (hne 1 0 (by decide) (by decide) (by decide)))
  have f_4 := f_4.kept (hq _ (hne 4 0 (by decide) (by decide) (by decide)))
  have f_r := f_r.kept (hq _ (hne 2 0 (by decide) (by decide) (by decide))) (hq _ (hne 3 0 (by decide) (by decide) (by decide)))
  have f_y := f_y.kept (fun j hj => hq _ (hd 0 j (by decide) hj))
  refine lv_aload_n hx hb dX1_copy_16 rfl (lv_at hl 0 rfl) ?_
  refine lv_aload_n hx hb dX1_copy_17 rfl (lv_at hl 1 rfl) ?_
  refine r_get (C := RX1) (T := TX1) (N := 8) hx hb hts i_X1_copy_X1 hown hK f_y.1 rfl 2 (by decide) k_X1_copy_fieldLink_55 rfl rfl dX1_copy_18 ?_
  refine w_put (C := RX1) (T := TX1) (N := 8) hx hb hts i_X1_copy_X1 tyX1 tyX1_ok nmX1 hown hK f_0 hS (lwA.in A 0 (by decide)) rfl 2 (by decide) k_X1_copy_fieldLink_55 rfl rfl rfl rfl (Nat.le_of_ble_eq_true rfl) dX1_copy_21 (fun H locs hn hq hS => ?_)
  have f_0 : oA G (A 0) 1 [.int (lNum y), .int (lKind y), .int (lV y), .int (lSlip x), .ref (A 1), .ref (A 2), .ref (A 4), .int (nI (lSc x))] H := hn
  have f_1 := f_1.kept (hq _ (hne 1 0 (by decide) (by decide) (by decide)))
  have f_4 := f_4.kept (hq _ (hne 4 0 (by decide) (by decide) (by decide)))
  have f_r := f_r.kept (hq _ (hne 2 0 (by decide) (by decide) (by decide))) (hq _ (hne 3 0 (by decide) (by decide) (by decide)))
  have f_y := f_y.kept (fun j hj => hq _ (hd 0 j (by decide) hj))
  refine lv_aload_n hx hb dX1_copy_24 rfl (lv_at hl 0 rfl) ?_
  refine lv_aload_n hx hb dX1_copy_25 rfl (lv_at hl 1 rfl) ?_
  refine r_get (C := RX1) (T := TX1) (N := 8) hx hb hts i_X1_copy_X1 hown hK f_y.1 rfl 3 (by decide) k_X1_copy_fieldLink_27 rfl rfl dX1_copy_26 ?_
  refine w_put (C := RX1) (T := TX1) (N := 8) hx hb hts i_X1_copy_X1 tyX1 tyX1_ok nmX1 hown hK f_0 hS (lwA.in A 0 (by decide)) rfl 3 (by decide) k_X1_copy_fieldLink_27 rfl rfl rfl rfl (Nat.le_of_ble_eq_true rfl) dX1_copy_29 (fun H locs hn hq hS => ?_)
  have f_0 : oA G (A 0) 1 [.int (lNum y), .int (lKind y), .int (lV y), .int (lSlip y), .ref (A 1), .ref (A 2), .ref (A 4), .int (nI (lSc x))] H := hn
  have f_1 := f_1.kept (hq _ (hne 1 0 (by decide) (by decide) (by decide)))
  have f_4 := f_4.kept (hq _ (hne 4 0 (by decide) (by decide) (by decide)))
  have f_r := f_r.kept (hq _ (hne 2 0 (by decide) (by decide) (by decide))) (hq _ (hne 3 0 (by decide) (by decide) (by decide)))
  have f_y := f_y.kept (fun j hj => hq _ (hd 0 j (by decide) hj))
  refine lv_aload_n hx hb dX1_copy_32 rfl (lv_at hl 0 rfl) ?_
  refine lv_aload_n hx hb dX1_copy_33 rfl (lv_at hl 1 rfl) ?_
  refine r_get (C := RX1) (T := TX1) (N := 8) hx hb hts i_X1_copy_X1 hown hK f_y.1 rfl 7 (by decide) k_X1_copy_fieldLink_34 rfl rfl dX1_copy_34 ?_
  refine w_put (C := RX1) (T := TX1) (N := 8) hx hb hts i_X1_copy_X1 tyX1 tyX1_ok nmX1 hown hK f_0 hS (lwA.in A 0 (by decide)) rfl 7 (by decide) k_X1_copy_fieldLink_34 rfl rfl rfl rfl (Nat.le_of_ble_eq_true rfl) dX1_copy_37 (fun H locs hn hq hS => ?_)
  have f_0 : oA G (A 0) 1 [.int (lNum y), .int (lKind y), .int (lV y), .int (lSlip y), .ref (A 1), .ref (A 2), .ref (A 4), .int (nI (lSc y))] H := hn
  have f_1 := f_1.kept (hq _ (hne 1 0 (by decide) (by decide) (by decide)))
  have f_4 := f_4.kept (hq _ (hne 4 0 (by decide) (by decide) (by decide)))
  have f_r := f_r.kept (hq _ (hne 2 0 (by decide) (by decide) (by decide))) (hq _ (hne 3 0 (by decide) (by decide) (by decide)))
  have f_y := f_y.kept (fun j hj => hq _ (hd 0 j (by decide) hj))
  refine lv_aload_n hx hb dX1_copy_40 rfl (lv_at hl 0 rfl) ?_
  refine r_get (C := RX1) (T := TX1) (N := 8) hx hb hts i_X1_copy_X1 hown hK f_0 rfl 5 (by decide) k_X1_copy_fieldLink_20 rfl rfl dX1_copy_41 ?_
  refine lv_aload_n hx hb dX1_copy_44 rfl (lv_at hl 1 rfl) ?_
  refine r_get (C := RX1) (T := TX1) (N := 8) hx hb hts i_X1_copy_X1 hown hK f_y.1 rfl 5 (by decide) k_X1_copy_fieldLink_20 rfl rfl dX1_copy_45 ?_
  refine wr_callv (va_runV (As := [.ref (B 2)]) (rest := []) hC (c_X2_copy l G (A 2) (A 3) (B 2) (B 3) 10 3 (lOv x) (lOv y) (hne 2 3 (by decide) (by decide) (by decide)) ⟨hd 2 2 (by decide) (by decide), hd 2 3 (by decide) (by decide), hd 3 2 (by decide) (by decide), hd 3 3 (by decide) (by decide)⟩) (cwV 1 hts gX1_copy_X2_copy rfl rfl rfl kd_X2_copy ⟨Nat.le_of_ble_eq_true rfl, Nat.le_of_ble_eq_true rfl⟩) (ro_preV hK f_r.1 rfl ⟨f_r, f_y.2.2.1⟩) rfl rfl hl.1 rfl (lv_room (Nat.le_of_ble_eq_true rfl)) dX1_copy_48 ⟨Nat.zero_le _, Nat.zero_le _⟩) hS (fun q h => h.elim (fun e => e ▸ lwA.in A 2 (by decide)) (fun e => e ▸ lwA.in A 3 (by decide))) (fun H locs f_n hq hS => ?_)
  have f_r := f_n
  have f_0 := f_0.kept (hq _ (fun z => z.elim (hne 0 2 (by decide) (by decide) (by decide)) (hne 0 3 (by decide) (by decide) (by decide))))
  have f_1 := f_1.kept (hq _ (fun z => z.elim (hne 1 2 (by decide) (by decide) (by decide)) (hne 1 3 (by decide) (by decide) (by decide))))
  have f_4 := f_4.kept (hq _ (fun z => z.elim (hne 4 2 (by decide) (by decide) (by decide)) (hne 4 3 (by decide) (by decide) (by decide))))
  have f_y := f_y.kept (fun j hj => hq _ (fun z => z.elim (hd 2 j (by decide) hj) (hd 3 j (by decide) hj)))
  refine lv_aload_n hx hb dX1_copy_51 rfl (lv_at hl 1 rfl) ?_
  refine r_get (C := RX1) (T := TX1) (N := 8) hx hb hts i_X1_copy_X1 hown hK f_y.1 rfl 4 (by decide) k_X1_copy_fieldLink_11 rfl rfl dX1_copy_52 ?_
  refine lv_iconst (v := 0) hx hb dX1_copy_55 (by decide) ?_
  refine lv_aload_n hx hb dX1_copy_56 rfl (lv_at hl 0 rfl) ?_
  refine r_get (C := RX1) (T := TX1) (N := 8) hx hb hts i_X1_copy_X1 hown hK f_0 rfl 4 (by decide) k_X1_copy_fieldLink_11 rfl rfl dX1_copy_57 ?_
  refine lv_iconst (v := 0) hx hb dX1_copy_60 (by decide) ?_
  refine lv_iconst (v := 4) hx hb dX1_copy_61 (by decide) ?_
  refine w_copy (k := 1) (ty := .int) hx hb (hml.trans hl.1.symm) hts hown k_X1_copy_methodLink_62 k_X1_copy_acnat k_X1_copy_acsta k_X1_copy_acini hK rfl rfl hS (lwA.in A 1 (by decide)) f_y.2.1 f_1 (nn9 := 4) rfl (by decide) (Nat.le_refl _) rfl (fun _ _ => rfl) (Nat.le_of_ble_eq_true rfl) (Nat.le_of_ble_eq_true rfl) dX1_copy_62 (fun H locs hn hq hS => ?_)
  have f_1 := hn
  have f_0 := f_0.kept (hq _ (hne 0 1 (by decide) (by decide) (by decide)))
  have f_4 := f_4.kept (hq _ (hne 4 1 (by decide) (by decide) (by decide)))
  have f_r := f_r.kept (hq _ (hne 2 1 (by decide) (by decide) (by decide))) (hq _ (hne 3 1 (by decide) (by decide) (by decide)))
  have f_y := f_y.kept (fun j hj => hq _ (hd 1 j (by decide) hj))
  refine lv_aload_n hx hb dX1_copy_65 rfl (lv_at hl 1 rfl) ?_
  refine r_get (C := RX1) (T := TX1) (N := 8) hx hb hts i_X1_copy_X1 hown hK f_y.1 rfl 6 (by decide) k_X1_copy_fieldLink_24 rfl rfl dX1_copy_66 ?_
  refine lv_iconst (v := 0) hx hb dX1_copy_69 (by decide) ?_
  refine lv_aload_n hx hb dX1_copy_70 rfl (lv_at hl 0 rfl) ?_
  refine r_get (C := RX1) (T := TX1) (N := 8) hx hb hts i_X1_copy_X1 hown hK f_0 rfl 6 (by decide) k_X1_copy_fieldLink_24 rfl rfl dX1_copy_71 ?_
  refine lv_iconst (v := 0) hx hb dX1_copy_74 (by decide) ?_
  refine lv_bipush (v := 120) hx hb dX1_copy_75 (by decide +kernel) ?_
  refine w_copy (k := 1) (ty := .int) hx hb (hml.trans hl.1.symm) hts hown k_X1_copy_methodLink_62 k_X1_copy_acnat k_X1_copy_acsta k_X1_copy_acini hK rfl rfl hS (lwA.in A 4 (by decide)) f_y.2.2.2.1 f_4 (nn9 := 120) rfl (by decide) (Nat.le_refl _) rfl (fun _ _ => rfl) (Nat.le_of_ble_eq_true rfl) (Nat.le_of_ble_eq_true rfl) dX1_copy_77 (fun H locs hn hq hS => ?_)
  have f_4 := hn
  have f_0 := f_0.kept (hq _ (hne 0 4 (by decide) (by decide) (by decide)))
  have f_1 := f_1.kept (hq _ (hne 1 4 (by decide) (by decide) (by decide)))
  have f_r := f_r.kept (hq _ (hne 2 4 (by decide) (by decide) (by decide))) (hq _ (hne 3 4 (by decide) (by decide) (by decide)))
  have f_y := f_y.kept (fun j hj => hq _ (hd 4 j (by decide) hj))
  exact wr_vret hx hb hr hlocks dX1_copy_80 hS ⟨f_0, f_1, f_r, f_4, w2⟩

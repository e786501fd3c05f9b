abbrev rw0 : RwT := (0, fun _ => 0)
abbrev tp0 : TpT := (0, 0, fun _ => 0)
abbrev lw0 : LawT := (0, 0, 0, 0, (fun _ => 0), rw0, (fun _ => 0), 0)
abbrev wd0 : WT := (rw0, rw0, rw0, tp0, (fun _ => lw0), 0)
theorem LwAt.cong {G : GG} {A B : Nat → Nat} {x : LawT} {H : Heap} (h : LwAt G A x H) (e : ∀ j, A j = B j) : LwAt G B x H := (funext e : A = B) ▸ h
theorem WAt.cong {G : GG} {A B : Nat → Nat} {x : WT} {H : Heap} (h : WAt G A x H) (e : ∀ j, A j = B j) : WAt G B x H := (funext e : A = B) ▸ h
theorem k_X2_init_oi : Cond.instanceMethod objectInit ∈ wsX2_init := by decide +kernel
theorem k_X2_init_oc : Cond.code objectInit ⟨#[0xb1]⟩ 1 none ∈ wsX2_init := by decide +kernel
theorem k_X2_init_methodLink_3 : Cond.methodLink RX2 3 objectInit ∈ wsX2_init := by decide +kernel
theorem i_X2_init_X2 : ∀ w ∈ wsX20, w ∈ wsX2_init := fun _ h => List.mem_cons_of_mem _ (List.mem_append_right _ h)
theorem k_X2_init_fieldLink_9 : Cond.fieldLink RX2 9 "SameWater$Rows" "most" "I" ∈ wsX2_init := by decide +kernel
theorem k_X2_init_fieldLink_15 : Cond.fieldLink RX2 15 "SameWater$Rows" "width" "I" ∈ wsX2_init := by decide +kernel
theorem k_X2_init_arr1 : Cond.arrayClass .int ∈ wsX2_init := by decide +kernel
theorem k_X2_init_fieldLink_18 : Cond.fieldLink RX2 18 "SameWater$Rows" "cells" "[I" ∈ wsX2_init := by decide +kernel
set_option maxHeartbeats 4000000 in
set_option maxRecDepth 100000 in
theorem c_X2_init (l : Launch) (G : GG) (h : Nat) (nm nw : Nat) (w2 : nm ≤ 64) (w3 : nw ≤ 8) : Met l yX2_init wsX2_init { frames := 1, cells := (0 + 1), slots := (0 + (nm * nw)), locals := 20 } (nP G [.ref h, .int (nI nm), .int (nI nw)] (fun H => H.size = h + 1 ∧ oA G h 2 [.int 0, .int 0, .null, .int 0] H)) (nwQ none (fun H => H.size = h + 2 ∧ RwAt G h (h + 1) nm nw rw0 H) (fun q => h ≤ q)) (0 + 1) (0 + (nm * nw)) (fun q => h ≤ q) := by
  refine Met.ofW (cc := cX2_init) (maxL := 3) (ret := none) (by decide) rfl ?_
  intro p e s m args below meth c s₁ Bd hml hv
  obtain ⟨rfl, ⟨hK, hO⟩, hz, f_0⟩ := hv
  have hx := Bd.exec
  have hb := Bd.bytes
  have hr := Bd.returns
  have hin2 : meth.name = "<init>" := (name_of_methodNamed Bd.named Bd.method).1
  have hts := atoms_spec (ws := wsX2_init) Bd.pre
  have hown : s.vm.findClass RX2 = some m.cls := findClass_of_methodNamed Bd.named
  have hlocks := Bd.notSynchronized
  have hC : CallFix p m c cX2_init 3 s _ wsX2_init RX2 := ⟨hx, hb, hml, hown, hts⟩
  have hl := lv_entry ([.ref h, .int (nI nm), .int (nI nw)]) (n := 3) (Nat.le_of_ble_eq_true rfl)
  rw [lg_entry_eq]
  generalize (lg_sl ([.ref h, .int (nI nm), .int (nI nw)]) ++ List.replicate (3 - (lg_sl ([.ref h, .int (nI nm), .int (nI nw)])).length) Slot.unset).toArray = ls at hl ⊢
  have hl : lv_has ls 3 [(0, .ref h), (1, .int (nI nm)), (2, .int (nI nw))] := hl
  have hS : wS (fun q => h ≤ q) s.heap s.heap [] := wS.rf
  have hg : gW (fun q => h ≤ q) s.heap s.heap := gW.rf
  have hzb := hz
  refine lv_aload_n hx hb dX2_init_0 rfl (lv_at hl 0 rfl) ?_
  refine n_obj hx hb hts hown k_X2_init_methodLink_3 k_X2_init_oi k_X2_init_oc (by rw [hml]; exact hl.1) dX2_init_1 (Nat.le_of_ble_eq_true rfl) (Nat.le_of_ble_eq_true rfl) ?_
  refine lv_aload_n hx hb dX2_init_4 rfl (lv_at hl 0 rfl) ?_
  refine lv_iload_n hx hb dX2_init_5 rfl (lv_at hl 1 rfl) ?_
  refine w_putF (C := RX2) (T := TX2) (N := 4) hx hb hts i_X2_init_X2 tyX2 tyX2_ok nmX2 hown hK f_0 hS (show h ≤ h by omega) rfl 0 (by decide) k_X2_init_fieldLink_9 rfl rfl hin2 rfl rfl rfl (Nat.le_of_ble_eq_true rfl) dX2_init_6 (fun H locs hn hq hS9 => ?_)
  replace hz : H.size = h + 1 := hS9.1.trans hzb
  replace hS := hS9
  clear hS9
  replace f_0 : oA G h 2 [.int (nI nm), .int 0, .null, .int 0] H := hn
  clear hn
  clear hq
  refine lv_aload_n hx hb dX2_init_9 rfl (lv_at hl 0 rfl) ?_
  refine lv_iload_n hx hb dX2_init_10 rfl (lv_at hl 2 rfl) ?_
  refine w_putF (C := RX2) (T := TX2) (N := 4) hx hb hts i_X2_init_X2 tyX2 tyX2_ok nmX2 hown hK f_0 hS (show h ≤ h by omega) rfl 1 (by decide) k_X2_init_fieldLink_15 rfl rfl hin2 rfl rfl rfl (Nat.le_of_ble_eq_true rfl) dX2_init_11 (fun H locs hn hq hS9 => ?_)
  replace hz : H.size = h + 1 := hS9.1.trans hzb
  replace hS := hS9
  clear hS9
  replace f_0 : oA G h 2 [.int (nI nm), .int (nI nw), .null, .int 0] H := hn
  clear hn
  clear hq
  refine lv_aload_n hx hb dX2_init_14 rfl (lv_at hl 0 rfl) ?_
  refine lv_iload_n hx hb dX2_init_15 rfl (lv_at hl 1 rfl) ?_
  refine lv_iload_n hx hb dX2_init_16 rfl (lv_at hl 2 rfl) ?_
  refine lv_imul hx hb dX2_init_17 ?_
  refine n_newa (G := G) (atype := .int) (k := 1) (N := (nm * nw)) hx hb hts k_X2_init_arr1 hK rfl (fun _ z => z) rfl (pk_mul nm nw) (nmnw_lt w2 w3) (by have := Nat.mul_le_mul w2 w3; show nm * nw * 4 ≤ _; omega) hS (by first | exact Nat.le_of_ble_eq_true rfl | exact Nat.le_refl _) (by first | exact Nat.le_of_ble_eq_true rfl | exact Nat.le_refl _) dX2_init_18 (h := h + 1) hz (fun H f_1 z1 hq hS1 => ?_)
  replace hg := (hg.of hS).go (A1 := fun _ => False) (by omega) (fun _ z => z.elim) (fun q z _ => hq q (by omega))
  replace hS := hS1
  clear hS1
  replace hzb : H.size = h + 2 := by omega
  replace hz := hzb
  clear z1
  replace f_0 := f_0.kept (hq _ (by omega))
  clear hq
  refine w_putF (C := RX2) (T := TX2) (N := 4) hx hb hts i_X2_init_X2 tyX2 tyX2_ok nmX2 hown hK f_0 hS (show h ≤ h by omega) rfl 2 (by decide) k_X2_init_fieldLink_18 rfl rfl hin2 rfl rfl rfl (Nat.le_of_ble_eq_true rfl) dX2_init_20 (fun H locs hn hq hS9 => ?_)
  replace hz : H.size = h + 2 := hS9.1.trans hzb
  replace hS := hS9
  clear hS9
  replace f_0 : oA G h 2 [.int (nI nm), .int (nI nw), .ref (h + 1), .int 0] H := hn
  clear hn
  replace f_1 := f_1.kept (hq _ (by omega))
  clear hq
  exact n_vret hx hb hr hlocks dX2_init_23 hg hS ⟨hz, ⟨f_0, f_1, Nat.zero_le _, w2, w3⟩⟩
theorem k_X1_init_oi : Cond.instanceMethod objectInit ∈ wsX1_init := by decide +kernel
theorem k_X1_init_oc : Cond.code objectInit ⟨#[0xb1]⟩ 1 none ∈ wsX1_init := by decide +kernel
theorem k_X1_init_methodLink_5 : Cond.methodLink RX1 5 objectInit ∈ wsX1_init := by decide +kernel
theorem k_X1_init_arr1 : Cond.arrayClass .int ∈ wsX1_init := by decide +kernel
theorem i_X1_init_X1 : ∀ w ∈ wsX10, w ∈ wsX1_init := fun _ h => List.mem_cons_of_mem _ (List.mem_append_left _ (List.mem_append_right _ h))
theorem k_X1_init_fieldLink_11 : Cond.fieldLink RX1 11 "SameWater$Law" "from" "[I" ∈ wsX1_init := by decide +kernel
theorem k_X1_init_classLink_15 : Cond.classLink RX1 15 RX2 ∈ wsX1_init := by decide +kernel
theorem k_X1_init_ins_X2 : Cond.instantiable RX2 4 ∈ wsX1_init := by decide +kernel
theorem k_X1_init_ini_X2 : Cond.initialized RX2 ∈ wsX1_init := by decide +kernel
theorem i_X1_init_X2 : ∀ w ∈ wsX20, w ∈ wsX1_init := fun _ h => List.mem_cons_of_mem _ (List.mem_append_right _ h)
theorem k_X1_init_ii_X2_init : Cond.initialized RX2 ∈ wsX1_init := by decide +kernel
theorem k_X1_init_im_X2_init : Cond.instanceMethod yX2_init ∈ wsX1_init := by decide +kernel
theorem k_X1_init_methodLink_17 : Cond.methodLink RX1 17 yX2_init ∈ wsX1_init := by decide +kernel
theorem k_X1_init_fieldLink_20 : Cond.fieldLink RX1 20 "SameWater$Law" "overs" "LSameWater$Rows;" ∈ wsX1_init := by decide +kernel
theorem k_X1_init_fieldLink_24 : Cond.fieldLink RX1 24 "SameWater$Law" "steps" "[I" ∈ wsX1_init := by decide +kernel
theorem kd_X2_init : yX2_init.cls ≠ "java/lang/invoke/MethodHandle" ∧ yX2_init.cls ≠ "java/lang/invoke/VarHandle" ∧ (parseMethodDescriptor yX2_init.desc).map (fun d => d.parameters.length) = some 2 := by decide +kernel
set_option maxHeartbeats 4000000 in
set_option maxRecDepth 100000 in
theorem c_X1_init (l : Launch) (G : GG) (h : Nat) : Met l yX1_init wsX1_init { frames := 2, cells := (0 + 1 + 1 + (0 + 1) + 1), slots := (0 + 4 + 4 + (0 + (10 * 3)) + 120), locals := 42 } (nP G [.ref h] (fun H => H.size = h + 1 ∧ oA G h 1 [.int 0, .int 0, .int 0, .int 0, .null, .null, .null, .int 0] H)) (nwQ none (fun H => H.size = h + 5 ∧ LwAt G (fun j => h + j) lw0 H) (fun q => h ≤ q)) (0 + 1 + 1 + (0 + 1) + 1) (0 + 4 + 4 + (0 + (10 * 3)) + 120) (fun q => h ≤ q) := by
  refine Met.ofW (cc := cX1_init) (maxL := 1) (ret := none) (by decide) rfl ?_
  intro p e s m args below meth c s₁ Bd hml hv
  obtain ⟨rfl, ⟨hK, hO⟩, hz, f_0⟩ := hv
  have hx := Bd.exec
  have hb := Bd.bytes
  have hr := Bd.returns
  have hin2 : meth.name = "<init>" := (name_of_methodNamed Bd.named Bd.method).1
  have hts := atoms_spec (ws := wsX1_init) Bd.pre
  have hown : s.vm.findClass RX1 = some m.cls := findClass_of_methodNamed Bd.named
  have hlocks := Bd.notSynchronized
  have hC : CallFix p m c cX1_init 1 s _ wsX1_init RX1 := ⟨hx, hb, hml, hown, hts⟩
  have hl := lv_entry ([.ref h]) (n := 1) (Nat.le_of_ble_eq_true rfl)
  rw [lg_entry_eq]
  generalize (lg_sl ([.ref h]) ++ List.replicate (1 - (lg_sl ([.ref h])).length) Slot.unset).toArray = ls at hl ⊢
  have hl : lv_has ls 1 [(0, .ref h)] := hl
  have hS : wS (fun q => h ≤ q) s.heap s.heap [] := wS.rf
  have hg : gW (fun q => h ≤ q) s.heap s.heap := gW.rf
  have hzb := hz
  refine lv_aload_n hx hb dX1_init_0 rfl (lv_at hl 0 rfl) ?_
  refine n_obj hx hb hts hown k_X1_init_methodLink_5 k_X1_init_oi k_X1_init_oc (by rw [hml]; exact hl.1) dX1_init_1 (Nat.le_of_ble_eq_true rfl) (Nat.le_of_ble_eq_true rfl) ?_
  refine lv_aload_n hx hb dX1_init_4 rfl (lv_at hl 0 rfl) ?_
  refine lv_iconst (v := 4) hx hb dX1_init_5 (by decide) ?_
  refine n_newa (G := G) (atype := .int) (k := 1) (N := 4) hx hb hts k_X1_init_arr1 hK rfl (fun _ z => z) rfl rfl (by decide) (by decide) hS (by first | exact Nat.le_of_ble_eq_true rfl | exact Nat.le_refl _) (by first | exact Nat.le_of_ble_eq_true rfl | exact Nat.le_refl _) dX1_init_6 (h := h + 1) hz (fun H f_1 z1 hq hS1 => ?_)
  replace hg := (hg.of hS).go (A1 := fun _ => False) (by omega) (fun _ z => z.elim) (fun q z _ => hq q (by omega))
  replace hS := hS1
  clear hS1
  replace hzb : H.size = h + 2 := by omega
  replace hz := hzb
  clear z1
  replace f_0 := f_0.kept (hq _ (by omega))
  clear hq
  refine w_putF (C := RX1) (T := TX1) (N := 8) hx hb hts i_X1_init_X1 tyX1 tyX1_ok nmX1 hown hK f_0 hS (show h ≤ h by omega) rfl 4 (by decide) k_X1_init_fieldLink_11 rfl rfl hin2 rfl rfl rfl (Nat.le_of_ble_eq_true rfl) dX1_init_8 (fun H locs hn hq hS9 => ?_)
  replace hz : H.size = h + 2 := hS9.1.trans hzb
  replace hS := hS9
  clear hS9
  replace f_0 : oA G h 1 [.int 0, .int 0, .int 0, .int 0, .ref (h + 1), .null, .null, .int 0] H := hn
  clear hn
  replace f_1 := f_1.kept (hq _ (by omega))
  clear hq
  refine lv_aload_n hx hb dX1_init_11 rfl (lv_at hl 0 rfl) ?_
  refine n_new (C := RX2) (T := TX2) (N := 4) (ci := 2) (fs := [.int 0, .int 0, .null, .int 0]) hx hb hts i_X1_init_X2 tyX2 tyX2_ok hown k_X1_init_classLink_15 k_X1_init_ins_X2 k_X1_init_ini_X2 hK rfl (by decide) hS (by first | exact Nat.le_of_ble_eq_true rfl | exact Nat.le_refl _) (by first | exact Nat.le_of_ble_eq_true rfl | exact Nat.le_refl _) dX1_init_12 (h := h + 2) hz (fun H f_2 z1 hq hS1 => ?_)
  replace hg := (hg.of hS).go (A1 := fun _ => False) (by omega) (fun _ z => z.elim) (fun q z _ => hq q (by omega))
  replace hS := hS1
  clear hS1
  replace hzb : H.size = h + 3 := by omega
  replace hz := hzb
  clear z1
  replace f_0 := f_0.kept (hq _ (by omega))
  replace f_1 := f_1.kept (hq _ (by omega))
  clear hq
  refine lv_dup hx hb dX1_init_15 rfl ?_
  refine lv_bipush (v := 10) hx hb dX1_init_16 (by decide +kernel) ?_
  refine lv_iconst (v := 3) hx hb dX1_init_18 (by decide) ?_
  refine n_call (va_runI (As := [.int 10, .int 3]) (rest := [.ref (h + 2), .ref h]) hC (c_X2_init l G (h + 2) 10 3 (by decide) (by decide)) (cwI 2 hts gX1_init_X2_init rfl rfl rfl (hts _ k_X1_init_ii_X2_init) (hts _ k_X1_init_methodLink_17) (hts _ k_X1_init_im_X2_init) rfl kd_X2_init ⟨Nat.le_of_ble_eq_true rfl, Nat.le_of_ble_eq_true rfl⟩) (nP_preS hK hO (show _ ∧ _ from ⟨hz, f_2⟩)) rfl rfl hl.1 rfl (lv_room (Nat.le_of_ble_eq_true rfl)) dX1_init_19 ⟨(by first | exact Nat.le_of_ble_eq_true rfl | exact Nat.le_refl _), (by first | exact Nat.le_of_ble_eq_true rfl | exact Nat.le_refl _)⟩) hS (fun q z => Nat.le_trans (show h ≤ (h + 2) by omega) z) (fun H locs hB1 hz1 hq1 hS1 => ?_)
  replace hg := (hg.of hS).go hz1 (fun q z => Nat.le_trans (show h ≤ (h + 2) by omega) z) hq1
  replace hS := hS1
  clear hS1
  obtain ⟨hz2, hB1⟩ := hB1
  have hq := fun (q : Nat) (z : q < (h + 2)) => hq1 q (by omega) (show ¬ (h + 2) ≤ q by omega)
  clear hq1 hz1
  replace hzb : H.size = h + 4 := by omega
  replace hz := hzb
  clear hz2 f_2
  replace f_0 := f_0.kept (hq _ (by omega))
  replace f_1 := f_1.kept (hq _ (by omega))
  clear hq
  have f_3 := hB1
  clear hB1
  refine w_putF (C := RX1) (T := TX1) (N := 8) hx hb hts i_X1_init_X1 tyX1 tyX1_ok nmX1 hown hK f_0 hS (show h ≤ h by omega) rfl 5 (by decide) k_X1_init_fieldLink_20 rfl rfl hin2 rfl rfl rfl (Nat.le_of_ble_eq_true rfl) dX1_init_22 (fun H locs hn hq hS9 => ?_)
  replace hz : H.size = h + 4 := hS9.1.trans hzb
  replace hS := hS9
  clear hS9
  replace f_0 : oA G h 1 [.int 0, .int 0, .int 0, .int 0, .ref (h + 1), .ref (h + 2), .null, .int 0] H := hn
  clear hn
  replace f_1 := f_1.kept (hq _ (by omega))
  replace f_3 := f_3.kept (hq _ (by omega)) (hq _ (by omega))
  clear hq
  refine lv_aload_n hx hb dX1_init_25 rfl (lv_at hl 0 rfl) ?_
  refine lv_bipush (v := 120) hx hb dX1_init_26 (by decide +kernel) ?_
  refine n_newa (G := G) (atype := .int) (k := 1) (N := 120) hx hb hts k_X1_init_arr1 hK rfl (fun _ z => z) rfl rfl (by decide) (by decide) hS (by first | exact Nat.le_of_ble_eq_true rfl | exact Nat.le_refl _) (by first | exact Nat.le_of_ble_eq_true rfl | exact Nat.le_refl _) dX1_init_28 (h := h + 4) hz (fun H f_4 z1 hq hS1 => ?_)
  replace hg := (hg.of hS).go (A1 := fun _ => False) (by omega) (fun _ z => z.elim) (fun q z _ => hq q (by omega))
  replace hS := hS1
  clear hS1
  replace hzb : H.size = h + 5 := by omega
  replace hz := hzb
  clear z1
  replace f_0 := f_0.kept (hq _ (by omega))
  replace f_1 := f_1.kept (hq _ (by omega))
  replace f_3 := f_3.kept (hq _ (by omega)) (hq _ (by omega))
  clear hq
  refine w_putF (C := RX1) (T := TX1) (N := 8) hx hb hts i_X1_init_X1 tyX1 tyX1_ok nmX1 hown hK f_0 hS (show h ≤ h by omega) rfl 6 (by decide) k_X1_init_fieldLink_24 rfl rfl hin2 rfl rfl rfl (Nat.le_of_ble_eq_true rfl) dX1_init_30 (fun H locs hn hq hS9 => ?_)
  replace hz : H.size = h + 5 := hS9.1.trans hzb
  replace hS := hS9
  clear hS9
  replace f_0 : oA G h 1 [.int 0, .int 0, .int 0, .int 0, .ref (h + 1), .ref (h + 2), .ref (h + 4), .int 0] H := hn
  clear hn
  replace f_1 := f_1.kept (hq _ (by omega))
  replace f_3 := f_3.kept (hq _ (by omega)) (hq _ (by omega))
  replace f_4 := f_4.kept (hq _ (by omega))
  clear hq
  exact n_vret hx hb hr hlocks dX1_init_33 hg hS ⟨hz, (⟨f_0, f_1, f_3, f_4, Nat.zero_le _⟩ : LwAt G (fun j => h + j) lw0 H)⟩
theorem k_X3_init_oi : Cond.instanceMethod objectInit ∈ wsX3_init := by decide +kernel
theorem k_X3_init_oc : Cond.code objectInit ⟨#[0xb1]⟩ 1 none ∈ wsX3_init := by decide +kernel
theorem k_X3_init_methodLink_3 : Cond.methodLink RX3 3 objectInit ∈ wsX3_init := by decide +kernel
theorem k_X3_init_arr0 : Cond.arrayClass .byte ∈ wsX3_init := by decide +kernel
theorem i_X3_init_X3 : ∀ w ∈ wsX30, w ∈ wsX3_init := fun _ h => List.mem_cons_of_mem _ (List.mem_append_right _ h)
theorem k_X3_init_fieldLink_9 : Cond.fieldLink RX3 9 "SameWater$Tape" "bytes" "[B" ∈ wsX3_init := by decide +kernel
set_option maxHeartbeats 4000000 in
set_option maxRecDepth 100000 in
theorem c_X3_init (l : Launch) (G : GG) (h : Nat) : Met l yX3_init wsX3_init { frames := 1, cells := (0 + 1), slots := (0 + 120), locals := 20 } (nP G [.ref h] (fun H => H.size = h + 1 ∧ oA G h 3 [.null, .int 0, .int 0] H)) (nwQ none (fun H => H.size = h + 2 ∧ TpAt G h (h + 1) tp0 H) (fun q => h ≤ q)) (0 + 1) (0 + 120) (fun q => h ≤ q) := by
  refine Met.ofW (cc := cX3_init) (maxL := 1) (ret := none) (by decide) rfl ?_
  intro p e s m args below meth c s₁ Bd hml hv
  obtain ⟨rfl, ⟨hK, hO⟩, hz, f_0⟩ := hv
  have hx := Bd.exec
  have hb := Bd.bytes
  have hr := Bd.returns
  have hin2 : meth.name = "<init>" := (name_of_methodNamed Bd.named Bd.method).1
  have hts := atoms_spec (ws := wsX3_init) Bd.pre
  have hown : s.vm.findClass RX3 = some m.cls := findClass_of_methodNamed Bd.named
  have hlocks := Bd.notSynchronized
  have hC : CallFix p m c cX3_init 1 s _ wsX3_init RX3 := ⟨hx, hb, hml, hown, hts⟩
  have hl := lv_entry ([.ref h]) (n := 1) (Nat.le_of_ble_eq_true rfl)
  rw [lg_entry_eq]
  generalize (lg_sl ([.ref h]) ++ List.replicate (1 - (lg_sl ([.ref h])).length) Slot.unset).toArray = ls at hl ⊢
  have hl : lv_has ls 1 [(0, .ref h)] := hl
  have hS : wS (fun q => h ≤ q) s.heap s.heap [] := wS.rf
  have hg : gW (fun q => h ≤ q) s.heap s.heap := gW.rf
  have hzb := hz
  refine lv_aload_n hx hb dX3_init_0 rfl (lv_at hl 0 rfl) ?_
  refine n_obj hx hb hts hown k_X3_init_methodLink_3 k_X3_init_oi k_X3_init_oc (by rw [hml]; exact hl.1) dX3_init_1 (Nat.le_of_ble_eq_true rfl) (Nat.le_of_ble_eq_true rfl) ?_
  refine lv_aload_n hx hb dX3_init_4 rfl (lv_at hl 0 rfl) ?_
  refine lv_bipush (v := 120) hx hb dX3_init_5 (by decide +kernel) ?_
  refine n_newa (G := G) (atype := .byte) (k := 0) (N := 120) hx hb hts k_X3_init_arr0 hK rfl (fun _ z => z) rfl rfl (by decide) (by decide) hS (by first | exact Nat.le_of_ble_eq_true rfl | exact Nat.le_refl _) (by first | exact Nat.le_of_ble_eq_true rfl | exact Nat.le_refl _) dX3_init_7 (h := h + 1) hz (fun H f_1 z1 hq hS1 => ?_)
  replace hg := (hg.of hS).go (A1 := fun _ => False) (by omega) (fun _ z => z.elim) (fun q z _ => hq q (by omega))
  replace hS := hS1
  clear hS1
  replace hzb : H.size = h + 2 := by omega
  replace hz := hzb
  clear z1
  replace f_0 := f_0.kept (hq _ (by omega))
  clear hq
  refine w_putF (C := RX3) (T := TX3) (N := 3) hx hb hts i_X3_init_X3 tyX3 tyX3_ok nmX3 hown hK f_0 hS (show h ≤ h by omega) rfl 0 (by decide) k_X3_init_fieldLink_9 rfl rfl hin2 rfl rfl rfl (Nat.le_of_ble_eq_true rfl) dX3_init_9 (fun H locs hn hq hS9 => ?_)
  replace hz : H.size = h + 2 := hS9.1.trans hzb
  replace hS := hS9
  clear hS9
  replace f_0 : oA G h 3 [.ref (h + 1), .int 0, .int 0] H := hn
  clear hn
  replace f_1 := f_1.kept (hq _ (by omega))
  clear hq
  exact n_vret hx hb hr hlocks dX3_init_12 hg hS ⟨hz, ⟨f_0, f_1, Nat.zero_le _, Nat.zero_le _⟩⟩
theorem k_X0_init_oi : Cond.instanceMethod objectInit ∈ wsX0_init := by decide +kernel
theorem k_X0_init_oc : Cond.code objectInit ⟨#[0xb1]⟩ 1 none ∈ wsX0_init := by decide +kernel
theorem k_X0_init_methodLink_3 : Cond.methodLink RX0 3 objectInit ∈ wsX0_init := by decide +kernel
theorem k_X0_init_arr1 : Cond.arrayClass .int ∈ wsX0_init := by decide +kernel
theorem i_X0_init_X0 : ∀ w ∈ wsX00, w ∈ wsX0_init := fun _ h => List.mem_cons_of_mem _ (List.mem_append_right _ h)
theorem k_X0_init_fieldLink_9 : Cond.fieldLink RX0 9 "SameWater$Acts" "bodies" "[I" ∈ wsX0_init := by decide +kernel
set_option maxHeartbeats 4000000 in
set_option maxRecDepth 100000 in
theorem c_X0_init (l : Launch) (G : GG) (h : Nat) : Met l yX0_init wsX0_init { frames := 1, cells := (0 + 1), slots := (0 + 20), locals := 20 } (nP G [.ref h] (fun H => H.size = h + 1 ∧ oA G h 0 [.null, .int 0] H)) (nwQ none (fun H => H.size = h + 2 ∧ oA G h 0 [.ref (h + 1), .int 0] H ∧ iA G 1 (h + 1) 20 (fun _ => 0) H) (fun q => h ≤ q)) (0 + 1) (0 + 20) (fun q => h ≤ q) := by
  refine Met.ofW (cc := cX0_init) (maxL := 1) (ret := none) (by decide) rfl ?_
  intro p e s m args below meth c s₁ Bd hml hv
  obtain ⟨rfl, ⟨hK, hO⟩, hz, f_0⟩ := hv
  have hx := Bd.exec
  have hb := Bd.bytes
  have hr := Bd.returns
  have hin2 : meth.name = "<init>" := (name_of_methodNamed Bd.named Bd.method).1
  have hts := atoms_spec (ws := wsX0_init) Bd.pre
  have hown : s.vm.findClass RX0 = some m.cls := findClass_of_methodNamed Bd.named
  have hlocks := Bd.notSynchronized
  have hC : CallFix p m c cX0_init 1 s _ wsX0_init RX0 := ⟨hx, hb, hml, hown, hts⟩
  have hl := lv_entry ([.ref h]) (n := 1) (Nat.le_of_ble_eq_true rfl)
  rw [lg_entry_eq]
  generalize (lg_sl ([.ref h]) ++ List.replicate (1 - (lg_sl ([.ref h])).length) Slot.unset).toArray = ls at hl ⊢
  have hl : lv_has ls 1 [(0, .ref h)] := hl
  have hS : wS (fun q => h ≤ q) s.heap s.heap [] := wS.rf
  have hg : gW (fun q => h ≤ q) s.heap s.heap := gW.rf
  have hzb := hz
  refine lv_aload_n hx hb dX0_init_0 rfl (lv_at hl 0 rfl) ?_
  refine n_obj hx hb hts hown k_X0_init_methodLink_3 k_X0_init_oi k_X0_init_oc (by rw [hml]; exact hl.1) dX0_init_1 (Nat.le_of_ble_eq_true rfl) (Nat.le_of_ble_eq_true rfl) ?_
  refine lv_aload_n hx hb dX0_init_4 rfl (lv_at hl 0 rfl) ?_
  refine lv_bipush (v := 20) hx hb dX0_init_5 (by decide +kernel) ?_
  refine n_newa (G := G) (atype := .int) (k := 1) (N := 20) hx hb hts k_X0_init_arr1 hK rfl (fun _ z => z) rfl rfl (by decide) (by decide) hS (by first | exact Nat.le_of_ble_eq_true rfl | exact Nat.le_refl _) (by first | exact Nat.le_of_ble_eq_true rfl | exact Nat.le_refl _) dX0_init_7 (h := h + 1) hz (fun H f_1 z1 hq hS1 => ?_)
  replace hg := (hg.of hS).go (A1 := fun _ => False) (by omega) (fun _ z => z.elim) (fun q z _ => hq q (by omega))
  replace hS := hS1
  clear hS1
  replace hzb : H.size = h + 2 := by omega
  replace hz := hzb
  clear z1
  replace f_0 := f_0.kept (hq _ (by omega))
  clear hq
  refine w_putF (C := RX0) (T := TX0) (N := 2) hx hb hts i_X0_init_X0 tyX0 tyX0_ok nmX0 hown hK f_0 hS (show h ≤ h by omega) rfl 0 (by decide) k_X0_init_fieldLink_9 rfl rfl hin2 rfl rfl rfl (Nat.le_of_ble_eq_true rfl) dX0_init_9 (fun H locs hn hq hS9 => ?_)
  replace hz : H.size = h + 2 := hS9.1.trans hzb
  replace hS := hS9
  clear hS9
  replace f_0 : oA G h 0 [.ref (h + 1), .int 0] H := hn
  clear hn
  replace f_1 := f_1.kept (hq _ (by omega))
  clear hq
  exact n_vret hx hb hr hlocks dX0_init_12 hg hS ⟨hz, ⟨f_0, f_1⟩⟩
theorem k_X4_init_oi : Cond.instanceMethod objectInit ∈ wsX4_init := by decide +kernel
theorem k_X4_init_oc : Cond.code objectInit ⟨#[0xb1]⟩ 1 none ∈ wsX4_init := by decide +kernel
theorem k_X4_init_methodLink_3 : Cond.methodLink RX4 3 objectInit ∈ wsX4_init := by decide +kernel
theorem k_X4_init_classLink_9 : Cond.classLink RX4 9 RX2 ∈ wsX4_init := by decide +kernel
theorem k_X4_init_ins_X2 : Cond.instantiable RX2 4 ∈ wsX4_init := by decide +kernel
theorem k_X4_init_ini_X2 : Cond.initialized RX2 ∈ wsX4_init := by decide +kernel
theorem i_X4_init_X2 : ∀ w ∈ wsX20, w ∈ wsX4_init := fun _ h => List.mem_cons_of_mem _ (List.mem_append_left _ (List.mem_append_left _ (List.mem_append_left _ (List.mem_append_right _ h))))
theorem k_X4_init_ii_X2_init : Cond.initialized RX2 ∈ wsX4_init := by decide +kernel
theorem k_X4_init_im_X2_init : Cond.instanceMethod yX2_init ∈ wsX4_init := by decide +kernel
theorem k_X4_init_methodLink_11 : Cond.methodLink RX4 11 yX2_init ∈ wsX4_init := by decide +kernel
theorem i_X4_init_X4 : ∀ w ∈ wsX40, w ∈ wsX4_init := fun _ h => List.mem_cons_of_mem _ (List.mem_append_left _ (List.mem_append_left _ (List.mem_append_right _ h)))
theorem k_X4_init_fieldLink_14 : Cond.fieldLink RX4 14 "SameWater$World" "children" "LSameWater$Rows;" ∈ wsX4_init := by decide +kernel
theorem k_X4_init_fieldLink_20 : Cond.fieldLink RX4 20 "SameWater$World" "askings" "LSameWater$Rows;" ∈ wsX4_init := by decide +kernel
theorem k_X4_init_fieldLink_23 : Cond.fieldLink RX4 23 "SameWater$World" "answers" "LSameWater$Rows;" ∈ wsX4_init := by decide +kernel
theorem k_X4_init_classLink_26 : Cond.classLink RX4 26 RX3 ∈ wsX4_init := by decide +kernel
theorem k_X4_init_ins_X3 : Cond.instantiable RX3 3 ∈ wsX4_init := by decide +kernel
theorem k_X4_init_ini_X3 : Cond.initialized RX3 ∈ wsX4_init := by decide +kernel
theorem i_X4_init_X3 : ∀ w ∈ wsX30, w ∈ wsX4_init := fun _ h => List.mem_cons_of_mem _ (List.mem_append_left _ (List.mem_append_right _ h))
theorem k_X4_init_ii_X3_init : Cond.initialized RX3 ∈ wsX4_init := by decide +kernel
theorem k_X4_init_im_X3_init : Cond.instanceMethod yX3_init ∈ wsX4_init := by decide +kernel
theorem k_X4_init_fieldLink_29 : Cond.fieldLink RX4 29 "SameWater$World" "tape" "LSameWater$Tape;" ∈ wsX4_init := by decide +kernel
theorem k_X4_init_classLink_33 : Cond.classLink RX4 33 RX1 ∈ wsX4_init := by decide +kernel
theorem k_X4_init_fieldLink_35 : Cond.fieldLink RX4 35 "SameWater$World" "laws" "[LSameWater$Law;" ∈ wsX4_init := by decide +kernel
theorem k_X4_init_ins_X1 : Cond.instantiable RX1 8 ∈ wsX4_init := by decide +kernel
theorem k_X4_init_ini_X1 : Cond.initialized RX1 ∈ wsX4_init := by decide +kernel
theorem i_X4_init_X1 : ∀ w ∈ wsX10, w ∈ wsX4_init := fun _ h => List.mem_cons_of_mem _ (List.mem_append_right _ h)
theorem k_X4_init_ii_X1_init : Cond.initialized RX1 ∈ wsX4_init := by decide +kernel
theorem k_X4_init_im_X1_init : Cond.instanceMethod yX1_init ∈ wsX4_init := by decide +kernel
theorem kd_X3_init : yX3_init.cls ≠ "java/lang/invoke/MethodHandle" ∧ yX3_init.cls ≠ "java/lang/invoke/VarHandle" ∧ (parseMethodDescriptor yX3_init.desc).map (fun d => d.parameters.length) = some 0 := by decide +kernel
theorem kd_X1_init : yX1_init.cls ≠ "java/lang/invoke/MethodHandle" ∧ yX1_init.cls ≠ "java/lang/invoke/VarHandle" ∧ (parseMethodDescriptor yX1_init.desc).map (fun d => d.parameters.length) = some 0 := by decide +kernel
set_option maxHeartbeats 4000000 in
set_option maxRecDepth 100000 in
theorem c_X4_init (l : Launch) (G : GG) (h : Nat) : Met l yX4_init wsX4_init { frames := 3, cells := (0 + 1 + (0 + 1) + 1 + (0 + 1) + 1 + (0 + 1) + 1 + (0 + 1) + 1 + 1 + (0 + 1 + 1 + (0 + 1) + 1) + 1 + (0 + 1 + 1 + (0 + 1) + 1) + 1 + (0 + 1 + 1 + (0 + 1) + 1) + 1 + (0 + 1 + 1 + (0 + 1) + 1) + 1 + (0 + 1 + 1 + (0 + 1) + 1) + 1 + (0 + 1 + 1 + (0 + 1) + 1) + 1 + (0 + 1 + 1 + (0 + 1) + 1) + 1 + (0 + 1 + 1 + (0 + 1) + 1)), slots := (0 + 4 + (0 + (8 * 5)) + 4 + (0 + (16 * 7)) + 4 + (0 + (40 * 5)) + 3 + (0 + 120) + 8 + 8 + (0 + 4 + 4 + (0 + (10 * 3)) + 120) + 8 + (0 + 4 + 4 + (0 + (10 * 3)) + 120) + 8 + (0 + 4 + 4 + (0 + (10 * 3)) + 120) + 8 + (0 + 4 + 4 + (0 + (10 * 3)) + 120) + 8 + (0 + 4 + 4 + (0 + (10 * 3)) + 120) + 8 + (0 + 4 + 4 + (0 + (10 * 3)) + 120) + 8 + (0 + 4 + 4 + (0 + (10 * 3)) + 120) + 8 + (0 + 4 + 4 + (0 + (10 * 3)) + 120)), locals := 62 } (nP G [.ref h] (fun H => H.size = h + 1 ∧ oA G h 4 [.null, .null, .null, .null, .null, .int 0] H)) (nwQ none (fun H => H.size = h + 50 ∧ WAt G (fun j => h + j) wd0 H) (fun q => h ≤ q)) (0 + 1 + (0 + 1) + 1 + (0 + 1) + 1 + (0 + 1) + 1 + (0 + 1) + 1 + 1 + (0 + 1 + 1 + (0 + 1) + 1) + 1 + (0 + 1 + 1 + (0 + 1) + 1) + 1 + (0 + 1 + 1 + (0 + 1) + 1) + 1 + (0 + 1 + 1 + (0 + 1) + 1) + 1 + (0 + 1 + 1 + (0 + 1) + 1) + 1 + (0 + 1 + 1 + (0 + 1) + 1) + 1 + (0 + 1 + 1 + (0 + 1) + 1) + 1 + (0 + 1 + 1 + (0 + 1) + 1)) (0 + 4 + (0 + (8 * 5)) + 4 + (0 + (16 * 7)) + 4 + (0 + (40 * 5)) + 3 + (0 + 120) + 8 + 8 + (0 + 4 + 4 + (0 + (10 * 3)) + 120) + 8 + (0 + 4 + 4 + (0 + (10 * 3)) + 120) + 8 + (0 + 4 + 4 + (0 + (10 * 3)) + 120) + 8 + (0 + 4 + 4 + (0 + (10 * 3)) + 120) + 8 + (0 + 4 + 4 + (0 + (10 * 3)) + 120) + 8 + (0 + 4 + 4 + (0 + (10 * 3)) + 120) + 8 + (0 + 4 + 4 + (0 + (10 * 3)) + 120) + 8 + (0 + 4 + 4 + (0 + (10 * 3)) + 120)) (fun q => h ≤ q) := by
  refine Met.ofW (cc := cX4_init) (maxL := 2) (ret := none) (by decide) rfl ?_
  intro p e s m args below meth c s₁ Bd hml hv
  obtain ⟨rfl, ⟨hK, hO⟩, hz, f_0⟩ := hv
  have hx := Bd.exec
  have hb := Bd.bytes
  have hr := Bd.returns
  have hin2 : meth.name = "<init>" := (name_of_methodNamed Bd.named Bd.method).1
  have hts := atoms_spec (ws := wsX4_init) Bd.pre
  have hown : s.vm.findClass RX4 = some m.cls := findClass_of_methodNamed Bd.named
  have hlocks := Bd.notSynchronized
  have hC : CallFix p m c cX4_init 2 s _ wsX4_init RX4 := ⟨hx, hb, hml, hown, hts⟩
  have hl := lv_entry ([.ref h]) (n := 2) (Nat.le_of_ble_eq_true rfl)
  rw [lg_entry_eq]
  generalize (lg_sl ([.ref h]) ++ List.replicate (2 - (lg_sl ([.ref h])).length) Slot.unset).toArray = ls at hl ⊢
  have hl : lv_has ls 2 [(0, .ref h)] := hl
  have hS : wS (fun q => h ≤ q) s.heap s.heap [] := wS.rf
  have hg : gW (fun q => h ≤ q) s.heap s.heap := gW.rf
  have hzb := hz
  refine lv_aload_n hx hb dX4_init_0 rfl (lv_at hl 0 rfl) ?_
  refine n_obj hx hb hts hown k_X4_init_methodLink_3 k_X4_init_oi k_X4_init_oc (by rw [hml]; exact hl.1) dX4_init_1 (Nat.le_of_ble_eq_true rfl) (Nat.le_of_ble_eq_true rfl) ?_
  refine lv_aload_n hx hb dX4_init_4 rfl (lv_at hl 0 rfl) ?_
  refine n_new (C := RX2) (T := TX2) (N := 4) (ci := 2) (fs := [.int 0, .int 0, .null, .int 0]) hx hb hts i_X4_init_X2 tyX2 tyX2_ok hown k_X4_init_classLink_9 k_X4_init_ins_X2 k_X4_init_ini_X2 hK rfl (by decide) hS (by first | exact Nat.le_of_ble_eq_true rfl | exact Nat.le_refl _) (by first | exact Nat.le_of_ble_eq_true rfl | exact Nat.le_refl _) dX4_init_5 (h := h + 1) hz (fun H f_1 z1 hq hS1 => ?_)
  replace hg := (hg.of hS).go (A1 := fun _ => False) (by omega) (fun _ z => z.elim) (fun q z _ => hq q (by omega))
  replace hS := hS1
  clear hS1
  replace hzb : H.size = h + 2 := by omega
  replace hz := hzb
  clear z1
  replace f_0 := f_0.kept (hq _ (by omega))
  clear hq
  refine lv_dup hx hb dX4_init_8 rfl ?_
  refine lv_bipush (v := 8) hx hb dX4_init_9 (by decide +kernel) ?_
  refine lv_iconst (v := 5) hx hb dX4_init_11 (by decide) ?_
  refine n_call (va_runI (As := [.int 8, .int 5]) (rest := [.ref (h + 1), .ref h]) hC (c_X2_init l G (h + 1) 8 5 (by decide) (by decide)) (cwI 2 hts gX4_init_X2_init rfl rfl rfl (hts _ k_X4_init_ii_X2_init) (hts _ k_X4_init_methodLink_11) (hts _ k_X4_init_im_X2_init) rfl kd_X2_init ⟨Nat.le_of_ble_eq_true rfl, Nat.le_of_ble_eq_true rfl⟩) (nP_preS hK hO (show _ ∧ _ from ⟨hz, f_1⟩)) rfl rfl hl.1 rfl (lv_room (Nat.le_of_ble_eq_true rfl)) dX4_init_12 ⟨(by first | exact Nat.le_of_ble_eq_true rfl | exact Nat.le_refl _), (by first | exact Nat.le_of_ble_eq_true rfl | exact Nat.le_refl _)⟩) hS (fun q z => Nat.le_trans (show h ≤ (h + 1) by omega) z) (fun H locs hB1 hz1 hq1 hS1 => ?_)
  replace hg := (hg.of hS).go hz1 (fun q z => Nat.le_trans (show h ≤ (h + 1) by omega) z) hq1
  replace hS := hS1
  clear hS1
  obtain ⟨hz2, hB1⟩ := hB1
  have hq := fun (q : Nat) (z : q < (h + 1)) => hq1 q (by omega) (show ¬ (h + 1) ≤ q by omega)
  clear hq1 hz1
  replace hzb : H.size = h + 3 := by omega
  replace hz := hzb
  clear hz2 f_1
  replace f_0 := f_0.kept (hq _ (by omega))
  clear hq
  have f_2 := hB1
  clear hB1
  refine w_putF (C := RX4) (T := TX4) (N := 6) hx hb hts i_X4_init_X4 tyX4 tyX4_ok nmX4 hown hK f_0 hS (show h ≤ h by omega) rfl 0 (by decide) k_X4_init_fieldLink_14 rfl rfl hin2 rfl rfl rfl (Nat.le_of_ble_eq_true rfl) dX4_init_15 (fun H locs hn hq hS9 => ?_)
  replace hz : H.size = h + 3 := hS9.1.trans hzb
  replace hS := hS9
  clear hS9
  replace f_0 : oA G h 4 [.ref (h + 1), .null, .null, .null, .null, .int 0] H := hn
  clear hn
  replace f_2 := f_2.kept (hq _ (by omega)) (hq _ (by omega))
  clear hq
  refine lv_aload_n hx hb dX4_init_18 rfl (lv_at hl 0 rfl) ?_
  refine n_new (C := RX2) (T := TX2) (N := 4) (ci := 2) (fs := [.int 0, .int 0, .null, .int 0]) hx hb hts i_X4_init_X2 tyX2 tyX2_ok hown k_X4_init_classLink_9 k_X4_init_ins_X2 k_X4_init_ini_X2 hK rfl (by decide) hS (by first | exact Nat.le_of_ble_eq_true rfl | exact Nat.le_refl _) (by first | exact Nat.le_of_ble_eq_true rfl | exact Nat.le_refl _) dX4_init_19 (h := h + 3) hz (fun H f_3 z1 hq hS1 => ?_)
  replace hg := (hg.of hS).go (A1 := fun _ => False) (by omega) (fun _ z => z.elim) (fun q z _ => hq q (by omega))
  replace hS := hS1
  clear hS1
  replace hzb : H.size = h + 4 := by omega
  replace hz := hzb
  clear z1
  replace f_0 := f_0.kept (hq _ (by omega))
  replace f_2 := f_2.kept (hq _ (by omega)) (hq _ (by omega))
  clear hq
  refine lv_dup hx hb dX4_init_22 rfl ?_
  refine lv_bipush (v := 16) hx hb dX4_init_23 (by decide +kernel) ?_
  refine lv_bipush (v := 7) hx hb dX4_init_25 (by decide +kernel) ?_
  refine n_call (va_runI (As := [.int 16, .int 7]) (rest := [.ref (h + 3), .ref h]) hC (c_X2_init l G (h + 3) 16 7 (by decide) (by decide)) (cwI 2 hts gX4_init_X2_init rfl rfl rfl (hts _ k_X4_init_ii_X2_init) (hts _ k_X4_init_methodLink_11) (hts _ k_X4_init_im_X2_init) rfl kd_X2_init ⟨Nat.le_of_ble_eq_true rfl, Nat.le_of_ble_eq_true rfl⟩) (nP_preS hK hO (show _ ∧ _ from ⟨hz, f_3⟩)) rfl rfl hl.1 rfl (lv_room (Nat.le_of_ble_eq_true rfl)) dX4_init_27 ⟨(by first | exact Nat.le_of_ble_eq_true rfl | exact Nat.le_refl _), (by first | exact Nat.le_of_ble_eq_true rfl | exact Nat.le_refl _)⟩) hS (fun q z => Nat.le_trans (show h ≤ (h + 3) by omega) z) (fun H locs hB1 hz1 hq1 hS1 => ?_)
  replace hg := (hg.of hS).go hz1 (fun q z => Nat.le_trans (show h ≤ (h + 3) by omega) z) hq1
  replace hS := hS1
  clear hS1
  obtain ⟨hz2, hB1⟩ := hB1
  have hq := fun (q : Nat) (z : q < (h + 3)) => hq1 q (by omega) (show ¬ (h + 3) ≤ q by omega)
  clear hq1 hz1
  replace hzb : H.size = h + 5 := by omega
  replace hz := hzb
  clear hz2 f_3
  replace f_0 := f_0.kept (hq _ (by omega))
  replace f_2 := f_2.kept (hq _ (by omega)) (hq _ (by omega))
  clear hq
  have f_4 := hB1
  clear hB1
  refine w_putF (C := RX4) (T := TX4) (N := 6) hx hb hts i_X4_init_X4 tyX4 tyX4_ok nmX4 hown hK f_0 hS (show h ≤ h by omega) rfl 1 (by decide) k_X4_init_fieldLink_20 rfl rfl hin2 rfl rfl rfl (Nat.le_of_ble_eq_true rfl) dX4_init_30 (fun H locs hn hq hS9 => ?_)
  replace hz : H.size = h + 5 := hS9.1.trans hzb
  replace hS := hS9
  clear hS9
  replace f_0 : oA G h 4 [.ref (h + 1), .ref (h + 3), .null, .null, .null, .int 0] H := hn
  clear hn
  replace f_2 := f_2.kept (hq _ (by omega)) (hq _ (by omega))
  replace f_4 := f_4.kept (hq _ (by omega)) (hq _ (by omega))
  clear hq
  refine lv_aload_n hx hb dX4_init_33 rfl (lv_at hl 0 rfl) ?_
  refine n_new (C := RX2) (T := TX2) (N := 4) (ci := 2) (fs := [.int 0, .int 0, .null, .int 0]) hx hb hts i_X4_init_X2 tyX2 tyX2_ok hown k_X4_init_classLink_9 k_X4_init_ins_X2 k_X4_init_ini_X2 hK rfl (by decide) hS (by first | exact Nat.le_of_ble_eq_true rfl | exact Nat.le_refl _) (by first | exact Nat.le_of_ble_eq_true rfl | exact Nat.le_refl _) dX4_init_34 (h := h + 5) hz (fun H f_5 z1 hq hS1 => ?_)
  replace hg := (hg.of hS).go (A1 := fun _ => False) (by omega) (fun _ z => z.elim) (fun q z _ => hq q (by omega))
  replace hS := hS1
  clear hS1
  replace hzb : H.size = h + 6 := by omega
  replace hz := hzb
  clear z1
  replace f_0 := f_0.kept (hq _ (by omega))
  replace f_2 := f_2.kept (hq _ (by omega)) (hq _ (by omega))
  replace f_4 := f_4.kept (hq _ (by omega)) (hq _ (by omega))
  clear hq
  refine lv_dup hx hb dX4_init_37 rfl ?_
  refine lv_bipush (v := 40) hx hb dX4_init_38 (by decide +kernel) ?_
  refine lv_iconst (v := 5) hx hb dX4_init_40 (by decide) ?_
  refine n_call (va_runI (As := [.int 40, .int 5]) (rest := [.ref (h + 5), .ref h]) hC (c_X2_init l G (h + 5) 40 5 (by decide) (by decide)) (cwI 2 hts gX4_init_X2_init rfl rfl rfl (hts _ k_X4_init_ii_X2_init) (hts _ k_X4_init_methodLink_11) (hts _ k_X4_init_im_X2_init) rfl kd_X2_init ⟨Nat.le_of_ble_eq_true rfl, Nat.le_of_ble_eq_true rfl⟩) (nP_preS hK hO (show _ ∧ _ from ⟨hz, f_5⟩)) rfl rfl hl.1 rfl (lv_room (Nat.le_of_ble_eq_true rfl)) dX4_init_41 ⟨(by first | exact Nat.le_of_ble_eq_true rfl | exact Nat.le_refl _), (by first | exact Nat.le_of_ble_eq_true rfl | exact Nat.le_refl _)⟩) hS (fun q z => Nat.le_trans (show h ≤ (h + 5) by omega) z) (fun H locs hB1 hz1 hq1 hS1 => ?_)
  replace hg := (hg.of hS).go hz1 (fun q z => Nat.le_trans (show h ≤ (h + 5) by omega) z) hq1
  replace hS := hS1
  clear hS1
  obtain ⟨hz2, hB1⟩ := hB1
  have hq := fun (q : Nat) (z : q < (h + 5)) => hq1 q (by omega) (show ¬ (h + 5) ≤ q by omega)
  clear hq1 hz1
  replace hzb : H.size = h + 7 := by omega
  replace hz := hzb
  clear hz2 f_5
  replace f_0 := f_0.kept (hq _ (by omega))
  replace f_2 := f_2.kept (hq _ (by omega)) (hq _ (by omega))
  replace f_4 := f_4.kept (hq _ (by omega)) (hq _ (by omega))
  clear hq
  have f_6 := hB1
  clear hB1
  refine w_putF (C := RX4) (T := TX4) (N := 6) hx hb hts i_X4_init_X4 tyX4 tyX4_ok nmX4 hown hK f_0 hS (show h ≤ h by omega) rfl 2 (by decide) k_X4_init_fieldLink_23 rfl rfl hin2 rfl rfl rfl (Nat.le_of_ble_eq_true rfl) dX4_init_44 (fun H locs hn hq hS9 => ?_)
  replace hz : H.size = h + 7 := hS9.1.trans hzb
  replace hS := hS9
  clear hS9
  replace f_0 : oA G h 4 [.ref (h + 1), .ref (h + 3), .ref (h + 5), .null, .null, .int 0] H := hn
  clear hn
  replace f_2 := f_2.kept (hq _ (by omega)) (hq _ (by omega))
  replace f_4 := f_4.kept (hq _ (by omega)) (hq _ (by omega))
  replace f_6 := f_6.kept (hq _ (by omega)) (hq _ (by omega))
  clear hq
  refine lv_aload_n hx hb dX4_init_47 rfl (lv_at hl 0 rfl) ?_
  refine n_new (C := RX3) (T := TX3) (N := 3) (ci := 3) (fs := [.null, .int 0, .int 0]) hx hb hts i_X4_init_X3 tyX3 tyX3_ok hown k_X4_init_classLink_26 k_X4_init_ins_X3 k_X4_init_ini_X3 hK rfl (by decide) hS (by first | exact Nat.le_of_ble_eq_true rfl | exact Nat.le_refl _) (by first | exact Nat.le_of_ble_eq_true rfl | exact Nat.le_refl _) dX4_init_48 (h := h + 7) hz (fun H f_7 z1 hq hS1 => ?_)
  replace hg := (hg.of hS).go (A1 := fun _ => False) (by omega) (fun _ z => z.elim) (fun q z _ => hq q (by omega))
  replace hS := hS1
  clear hS1
  replace hzb : H.size = h + 8 := by omega
  replace hz := hzb
  clear z1
  replace f_0 := f_0.kept (hq _ (by omega))
  replace f_2 := f_2.kept (hq _ (by omega)) (hq _ (by omega))
  replace f_4 := f_4.kept (hq _ (by omega)) (hq _ (by omega))
  replace f_6 := f_6.kept (hq _ (by omega)) (hq _ (by omega))
  clear hq
  refine lv_dup hx hb dX4_init_51 rfl ?_
  refine n_call (va_runIN (As := []) (rest := [.ref (h + 7), .ref h]) hC (c_X3_init l G (h + 7)) ⟨va_cnB 0 hts gX4_init_X3_init_n28 rfl rfl rfl (hK.2 _ (List.mem_of_getElem? (i := 6) rfl)) (hts _ k_X4_init_ii_X3_init) kd_X3_init ⟨Nat.le_of_ble_eq_true rfl, Nat.le_of_ble_eq_true rfl⟩, rfl, (hts _ k_X4_init_im_X3_init)⟩ (nP_preS hK hO (show _ ∧ _ from ⟨hz, f_7⟩)) rfl rfl hl.1 rfl (lv_room (Nat.le_of_ble_eq_true rfl)) dX4_init_52 ⟨(by first | exact Nat.le_of_ble_eq_true rfl | exact Nat.le_refl _), (by first | exact Nat.le_of_ble_eq_true rfl | exact Nat.le_refl _)⟩) hS (fun q z => Nat.le_trans (show h ≤ (h + 7) by omega) z) (fun H locs hB1 hz1 hq1 hS1 => ?_)
  replace hg := (hg.of hS).go hz1 (fun q z => Nat.le_trans (show h ≤ (h + 7) by omega) z) hq1
  replace hS := hS1
  clear hS1
  obtain ⟨hz2, hB1⟩ := hB1
  have hq := fun (q : Nat) (z : q < (h + 7)) => hq1 q (by omega) (show ¬ (h + 7) ≤ q by omega)
  clear hq1 hz1
  replace hzb : H.size = h + 9 := by omega
  replace hz := hzb
  clear hz2 f_7
  replace f_0 := f_0.kept (hq _ (by omega))
  replace f_2 := f_2.kept (hq _ (by omega)) (hq _ (by omega))
  replace f_4 := f_4.kept (hq _ (by omega)) (hq _ (by omega))
  replace f_6 := f_6.kept (hq _ (by omega)) (hq _ (by omega))
  clear hq
  have f_8 := hB1
  clear hB1
  refine w_putF (C := RX4) (T := TX4) (N := 6) hx hb hts i_X4_init_X4 tyX4 tyX4_ok nmX4 hown hK f_0 hS (show h ≤ h by omega) rfl 3 (by decide) k_X4_init_fieldLink_29 rfl rfl hin2 rfl rfl rfl (Nat.le_of_ble_eq_true rfl) dX4_init_55 (fun H locs hn hq hS9 => ?_)
  replace hz : H.size = h + 9 := hS9.1.trans hzb
  replace hS := hS9
  clear hS9
  replace f_0 : oA G h 4 [.ref (h + 1), .ref (h + 3), .ref (h + 5), .ref (h + 7), .null, .int 0] H := hn
  clear hn
  replace f_2 := f_2.kept (hq _ (by omega)) (hq _ (by omega))
  replace f_4 := f_4.kept (hq _ (by omega)) (hq _ (by omega))
  replace f_6 := f_6.kept (hq _ (by omega)) (hq _ (by omega))
  replace f_8 := f_8.kept (hq _ (by omega)) (hq _ (by omega))
  clear hq
  refine lv_aload_n hx hb dX4_init_58 rfl (lv_at hl 0 rfl) ?_
  refine lv_bipush (v := 8) hx hb dX4_init_59 (by decide +kernel) ?_
  refine n_newq (G := G) (N := 8) hx hb hts hown k_X4_init_classLink_33 hO hK rfl (by decide) hS (by first | exact Nat.le_of_ble_eq_true rfl | exact Nat.le_refl _) (by first | exact Nat.le_of_ble_eq_true rfl | exact Nat.le_refl _) dX4_init_61 (h := h + 9) hz (fun H f_9 z1 hq hS1 => ?_)
  replace hg := (hg.of hS).go (A1 := fun _ => False) (by omega) (fun _ z => z.elim) (fun q z _ => hq q (by omega))
  replace hS := hS1
  clear hS1
  replace hzb : H.size = h + 10 := by omega
  replace hz := hzb
  clear z1
  replace f_0 := f_0.kept (hq _ (by omega))
  replace f_2 := f_2.kept (hq _ (by omega)) (hq _ (by omega))
  replace f_4 := f_4.kept (hq _ (by omega)) (hq _ (by omega))
  replace f_6 := f_6.kept (hq _ (by omega)) (hq _ (by omega))
  replace f_8 := f_8.kept (hq _ (by omega)) (hq _ (by omega))
  clear hq
  refine w_putF (C := RX4) (T := TX4) (N := 6) hx hb hts i_X4_init_X4 tyX4 tyX4_ok nmX4 hown hK f_0 hS (show h ≤ h by omega) rfl 4 (by decide) k_X4_init_fieldLink_35 rfl rfl hin2 rfl rfl rfl (Nat.le_of_ble_eq_true rfl) dX4_init_64 (fun H locs hn hq hS9 => ?_)
  replace hz : H.size = h + 10 := hS9.1.trans hzb
  replace hS := hS9
  clear hS9
  replace f_0 : oA G h 4 [.ref (h + 1), .ref (h + 3), .ref (h + 5), .ref (h + 7), .ref (h + 9), .int 0] H := hn
  clear hn
  replace f_2 := f_2.kept (hq _ (by omega)) (hq _ (by omega))
  replace f_4 := f_4.kept (hq _ (by omega)) (hq _ (by omega))
  replace f_6 := f_6.kept (hq _ (by omega)) (hq _ (by omega))
  replace f_8 := f_8.kept (hq _ (by omega)) (hq _ (by omega))
  replace f_9 := f_9.kept (hq _ (by omega))
  clear hq
  refine lv_iconst (v := 0) hx hb dX4_init_67 (by decide) ?_
  refine lv_istore_n (lv' := [(1, .int 0), (0, .ref h)]) hx hb dX4_init_68 rfl hl (by decide) rfl (fun ls hl => ?_)
  refine lv_iload_n hx hb dX4_init_69 rfl (lv_at hl 0 rfl) ?_
  refine lv_bipush (v := 8) hx hb dX4_init_70 (by decide +kernel) ?_
  refine lv_icmp_ge (tgt := 94) hx hb dX4_init_72 (by decide) (fun h_1 => absurd h_1 (by decide)) (fun h_1 => ?_)
  refine lv_aload_n hx hb dX4_init_75 rfl (lv_at hl 1 rfl) ?_
  refine r_get (C := RX4) (T := TX4) (N := 6) hx hb hts i_X4_init_X4 hown hK f_0 rfl 4 (by decide) k_X4_init_fieldLink_35 rfl rfl dX4_init_76 ?_
  refine lv_iload_n hx hb dX4_init_79 rfl (lv_at hl 0 rfl) ?_
  refine n_new (C := RX1) (T := TX1) (N := 8) (ci := 1) (fs := [.int 0, .int 0, .int 0, .int 0, .null, .null, .null, .int 0]) hx hb hts i_X4_init_X1 tyX1 tyX1_ok hown k_X4_init_classLink_33 k_X4_init_ins_X1 k_X4_init_ini_X1 hK rfl (by decide) hS (by first | exact Nat.le_of_ble_eq_true rfl | exact Nat.le_refl _) (by first | exact Nat.le_of_ble_eq_true rfl | exact Nat.le_refl _) dX4_init_80 (h := h + 10) hz (fun H f_10 z1 hq hS1 => ?_)
  replace hg := (hg.of hS).go (A1 := fun _ => False) (by omega) (fun _ z => z.elim) (fun q z _ => hq q (by omega))
  replace hS := hS1
  clear hS1
  replace hzb : H.size = h + 11 := by omega
  replace hz := hzb
  clear z1
  replace f_0 := f_0.kept (hq _ (by omega))
  replace f_2 := f_2.kept (hq _ (by omega)) (hq _ (by omega))
  replace f_4 := f_4.kept (hq _ (by omega)) (hq _ (by omega))
  replace f_6 := f_6.kept (hq _ (by omega)) (hq _ (by omega))
  replace f_8 := f_8.kept (hq _ (by omega)) (hq _ (by omega))
  replace f_9 := f_9.kept (hq _ (by omega))
  clear hq
  refine lv_dup hx hb dX4_init_83 rfl ?_
  refine n_call (va_runIN (As := []) (rest := [.ref (h + 10), .int 0, .ref (h + 9)]) hC (c_X1_init l G (h + 10)) ⟨va_cnB 0 hts gX4_init_X1_init_n39 rfl rfl rfl (hK.2 _ (List.mem_of_getElem? (i := 7) rfl)) (hts _ k_X4_init_ii_X1_init) kd_X1_init ⟨Nat.le_of_ble_eq_true rfl, Nat.le_of_ble_eq_true rfl⟩, rfl, (hts _ k_X4_init_im_X1_init)⟩ (nP_preS hK hO (show _ ∧ _ from ⟨hz, f_10⟩)) rfl rfl hl.1 rfl (lv_room (Nat.le_of_ble_eq_true rfl)) dX4_init_84 ⟨(by first | exact Nat.le_of_ble_eq_true rfl | exact Nat.le_refl _), (by first | exact Nat.le_of_ble_eq_true rfl | exact Nat.le_refl _)⟩) hS (fun q z => Nat.le_trans (show h ≤ (h + 10) by omega) z) (fun H locs hB1 hz1 hq1 hS1 => ?_)
  replace hg := (hg.of hS).go hz1 (fun q z => Nat.le_trans (show h ≤ (h + 10) by omega) z) hq1
  replace hS := hS1
  clear hS1
  obtain ⟨hz2, hB1⟩ := hB1
  have hq := fun (q : Nat) (z : q < (h + 10)) => hq1 q (by omega) (show ¬ (h + 10) ≤ q by omega)
  clear hq1 hz1
  replace hzb : H.size = h + 15 := by omega
  replace hz := hzb
  clear hz2 f_10
  replace f_0 := f_0.kept (hq _ (by omega))
  replace f_2 := f_2.kept (hq _ (by omega)) (hq _ (by omega))
  replace f_4 := f_4.kept (hq _ (by omega)) (hq _ (by omega))
  replace f_6 := f_6.kept (hq _ (by omega)) (hq _ (by omega))
  replace f_8 := f_8.kept (hq _ (by omega)) (hq _ (by omega))
  replace f_9 := f_9.kept (hq _ (by omega))
  clear hq
  have f_11 := hB1
  clear hB1
  refine n_qast (N := 8) hx hb hK f_9 f_11.1 rfl hS (show h ≤ (h + 9) by omega) (show ¬ ((0 : Int32) < 0 ∨ 8 ≤ (0 : Int32).toNatClampNeg) by decide) dX4_init_87 (fun H locs hn hq hS9 => ?_)
  replace hz : H.size = h + 15 := hS9.1.trans hzb
  replace hS := hS9
  clear hS9
  replace f_9 : qA G (h + 9) 8 (va_up (fun _ => none) (0 : Int32).toNatClampNeg (some (h + 10))) H := hn
  clear hn
  replace f_0 := f_0.kept (hq _ (by omega))
  replace f_2 := f_2.kept (hq _ (by omega)) (hq _ (by omega))
  replace f_4 := f_4.kept (hq _ (by omega)) (hq _ (by omega))
  replace f_6 := f_6.kept (hq _ (by omega)) (hq _ (by omega))
  replace f_8 := f_8.kept (hq _ (by omega)) (hq _ (by omega))
  replace f_11 := f_11.kept (fun j hj => hq _ (by (try dsimp only); omega))
  clear hq
  refine lv_iinc (v := 1) (lv' := [(1, .int 1), (0, .ref h)]) hx hb dX4_init_88 hl (k := 0) rfl (by decide) (by decide) rfl (fun ls hl => ?_)
  refine lv_goto (tgt := 69) hx hb dX4_init_91 (by decide) ?_
  refine lv_iload_n hx hb dX4_init_69 rfl (lv_at hl 0 rfl) ?_
  refine lv_bipush (v := 8) hx hb dX4_init_70 (by decide +kernel) ?_
  refine lv_icmp_ge (tgt := 94) hx hb dX4_init_72 (by decide) (fun h_2 => absurd h_2 (by decide)) (fun h_2 => ?_)
  refine lv_aload_n hx hb dX4_init_75 rfl (lv_at hl 1 rfl) ?_
  refine r_get (C := RX4) (T := TX4) (N := 6) hx hb hts i_X4_init_X4 hown hK f_0 rfl 4 (by decide) k_X4_init_fieldLink_35 rfl rfl dX4_init_76 ?_
  refine lv_iload_n hx hb dX4_init_79 rfl (lv_at hl 0 rfl) ?_
  refine n_new (C := RX1) (T := TX1) (N := 8) (ci := 1) (fs := [.int 0, .int 0, .int 0, .int 0, .null, .null, .null, .int 0]) hx hb hts i_X4_init_X1 tyX1 tyX1_ok hown k_X4_init_classLink_33 k_X4_init_ins_X1 k_X4_init_ini_X1 hK rfl (by decide) hS (by first | exact Nat.le_of_ble_eq_true rfl | exact Nat.le_refl _) (by first | exact Nat.le_of_ble_eq_true rfl | exact Nat.le_refl _) dX4_init_80 (h := h + 15) hz (fun H f_12 z1 hq hS1 => ?_)
  replace hg := (hg.of hS).go (A1 := fun _ => False) (by omega) (fun _ z => z.elim) (fun q z _ => hq q (by omega))
  replace hS := hS1
  clear hS1
  replace hzb : H.size = h + 16 := by omega
  replace hz := hzb
  clear z1
  replace f_0 := f_0.kept (hq _ (by omega))
  replace f_2 := f_2.kept (hq _ (by omega)) (hq _ (by omega))
  replace f_4 := f_4.kept (hq _ (by omega)) (hq _ (by omega))
  replace f_6 := f_6.kept (hq _ (by omega)) (hq _ (by omega))
  replace f_8 := f_8.kept (hq _ (by omega)) (hq _ (by omega))
  replace f_9 := f_9.kept (hq _ (by omega))
  replace f_11 := f_11.kept (fun j hj => hq _ (by (try dsimp only); omega))
  clear hq
  refine lv_dup hx hb dX4_init_83 rfl ?_
  refine n_call (va_runIN (As := []) (rest := [.ref (h + 15), .int 1, .ref (h + 9)]) hC (c_X1_init l G (h + 15)) ⟨va_cnB 0 hts gX4_init_X1_init_n39 rfl rfl rfl (hK.2 _ (List.mem_of_getElem? (i := 7) rfl)) (hts _ k_X4_init_ii_X1_init) kd_X1_init ⟨Nat.le_of_ble_eq_true rfl, Nat.le_of_ble_eq_true rfl⟩, rfl, (hts _ k_X4_init_im_X1_init)⟩ (nP_preS hK hO (show _ ∧ _ from ⟨hz, f_12⟩)) rfl rfl hl.1 rfl (lv_room (Nat.le_of_ble_eq_true rfl)) dX4_init_84 ⟨(by first | exact Nat.le_of_ble_eq_true rfl | exact Nat.le_refl _), (by first | exact Nat.le_of_ble_eq_true rfl | exact Nat.le_refl _)⟩) hS (fun q z => Nat.le_trans (show h ≤ (h + 15) by omega) z) (fun H locs hB1 hz1 hq1 hS1 => ?_)
  replace hg := (hg.of hS).go hz1 (fun q z => Nat.le_trans (show h ≤ (h + 15) by omega) z) hq1
  replace hS := hS1
  clear hS1
  obtain ⟨hz2, hB1⟩ := hB1
  have hq := fun (q : Nat) (z : q < (h + 15)) => hq1 q (by omega) (show ¬ (h + 15) ≤ q by omega)
  clear hq1 hz1
  replace hzb : H.size = h + 20 := by omega
  replace hz := hzb
  clear hz2 f_12
  replace f_0 := f_0.kept (hq _ (by omega))
  replace f_2 := f_2.kept (hq _ (by omega)) (hq _ (by omega))
  replace f_4 := f_4.kept (hq _ (by omega)) (hq _ (by omega))
  replace f_6 := f_6.kept (hq _ (by omega)) (hq _ (by omega))
  replace f_8 := f_8.kept (hq _ (by omega)) (hq _ (by omega))
  replace f_9 := f_9.kept (hq _ (by omega))
  replace f_11 := f_11.kept (fun j hj => hq _ (by (try dsimp only); omega))
  clear hq
  have f_13 := hB1
  clear hB1
  refine n_qast (N := 8) hx hb hK f_9 f_13.1 rfl hS (show h ≤ (h + 9) by omega) (show ¬ ((1 : Int32) < 0 ∨ 8 ≤ (1 : Int32).toNatClampNeg) by decide) dX4_init_87 (fun H locs hn hq hS9 => ?_)
  replace hz : H.size = h + 20 := hS9.1.trans hzb
  replace hS := hS9
  clear hS9
  replace f_9 : qA G (h + 9) 8 (va_up (va_up (fun _ => none) (0 : Int32).toNatClampNeg (some (h + 10))) (1 : Int32).toNatClampNeg (some (h + 15))) H := hn
  clear hn
  replace f_0 := f_0.kept (hq _ (by omega))
  replace f_2 := f_2.kept (hq _ (by omega)) (hq _ (by omega))
  replace f_4 := f_4.kept (hq _ (by omega)) (hq _ (by omega))
  replace f_6 := f_6.kept (hq _ (by omega)) (hq _ (by omega))
  replace f_8 := f_8.kept (hq _ (by omega)) (hq _ (by omega))
  replace f_11 := f_11.kept (fun j hj => hq _ (by (try dsimp only); omega))
  replace f_13 := f_13.kept (fun j hj => hq _ (by (try dsimp only); omega))
  clear hq
  refine lv_iinc (v := 2) (lv' := [(1, .int 2), (0, .ref h)]) hx hb dX4_init_88 hl (k := 0) rfl (by decide) (by decide) rfl (fun ls hl => ?_)
  refine lv_goto (tgt := 69) hx hb dX4_init_91 (by decide) ?_
  refine lv_iload_n hx hb dX4_init_69 rfl (lv_at hl 0 rfl) ?_
  refine lv_bipush (v := 8) hx hb dX4_init_70 (by decide +kernel) ?_
  refine lv_icmp_ge (tgt := 94) hx hb dX4_init_72 (by decide) (fun h_3 => absurd h_3 (by decide)) (fun h_3 => ?_)
  refine lv_aload_n hx hb dX4_init_75 rfl (lv_at hl 1 rfl) ?_
  refine r_get (C := RX4) (T := TX4) (N := 6) hx hb hts i_X4_init_X4 hown hK f_0 rfl 4 (by decide) k_X4_init_fieldLink_35 rfl rfl dX4_init_76 ?_
  refine lv_iload_n hx hb dX4_init_79 rfl (lv_at hl 0 rfl) ?_
  refine n_new (C := RX1) (T := TX1) (N := 8) (ci := 1) (fs := [.int 0, .int 0, .int 0, .int 0, .null, .null, .null, .int 0]) hx hb hts i_X4_init_X1 tyX1 tyX1_ok hown k_X4_init_classLink_33 k_X4_init_ins_X1 k_X4_init_ini_X1 hK rfl (by decide) hS (by first | exact Nat.le_of_ble_eq_true rfl | exact Nat.le_refl _) (by first | exact Nat.le_of_ble_eq_true rfl | exact Nat.le_refl _) dX4_init_80 (h := h + 20) hz (fun H f_14 z1 hq hS1 => ?_)
  replace hg := (hg.of hS).go (A1 := fun _ => False) (by omega) (fun _ z => z.elim) (fun q z _ => hq q (by omega))
  replace hS := hS1
  clear hS1
  replace hzb : H.size = h + 21 := by omega
  replace hz := hzb
  clear z1
  replace f_0 := f_0.kept (hq _ (by omega))
  replace f_2 := f_2.kept (hq _ (by omega)) (hq _ (by omega))
  replace f_4 := f_4.kept (hq _ (by omega)) (hq _ (by omega))
  replace f_6 := f_6.kept (hq _ (by omega)) (hq _ (by omega))
  replace f_8 := f_8.kept (hq _ (by omega)) (hq _ (by omega))
  replace f_9 := f_9.kept (hq _ (by omega))
  replace f_11 := f_11.kept (fun j hj => hq _ (by (try dsimp only); omega))
  replace f_13 := f_13.kept (fun j hj => hq _ (by (try dsimp only); omega))
  clear hq
  refine lv_dup hx hb dX4_init_83 rfl ?_
  refine n_call (va_runIN (As := []) (rest := [.ref (h + 20), .int 2, .ref (h + 9)]) hC (c_X1_init l G (h + 20)) ⟨va_cnB 0 hts gX4_init_X1_init_n39 rfl rfl rfl (hK.2 _ (List.mem_of_getElem? (i := 7) rfl)) (hts _ k_X4_init_ii_X1_init) kd_X1_init ⟨Nat.le_of_ble_eq_true rfl, Nat.le_of_ble_eq_true rfl⟩, rfl, (hts _ k_X4_init_im_X1_init)⟩ (nP_preS hK hO (show _ ∧ _ from ⟨hz, f_14⟩)) rfl rfl hl.1 rfl (lv_room (Nat.le_of_ble_eq_true rfl)) dX4_init_84 ⟨(by first | exact Nat.le_of_ble_eq_true rfl | exact Nat.le_refl _), (by first | exact Nat.le_of_ble_eq_true rfl | exact Nat.le_refl _)⟩) hS (fun q z => Nat.le_trans (show h ≤ (h + 20) by omega) z) (fun H locs hB1 hz1 hq1 hS1 => ?_)
  replace hg := (hg.of hS).go hz1 (fun q z => Nat.le_trans (show h ≤ (h + 20) by omega) z) hq1
  replace hS := hS1
  clear hS1
  obtain ⟨hz2, hB1⟩ := hB1
  have hq := fun (q : Nat) (z : q < (h + 20)) => hq1 q (by omega) (show ¬ (h + 20) ≤ q by omega)
  clear hq1 hz1
  replace hzb : H.size = h + 25 := by omega
  replace hz := hzb
  clear hz2 f_14
  replace f_0 := f_0.kept (hq _ (by omega))
  replace f_2 := f_2.kept (hq _ (by omega)) (hq _ (by omega))
  replace f_4 := f_4.kept (hq _ (by omega)) (hq _ (by omega))
  replace f_6 := f_6.kept (hq _ (by omega)) (hq _ (by omega))
  replace f_8 := f_8.kept (hq _ (by omega)) (hq _ (by omega))
  replace f_9 := f_9.kept (hq _ (by omega))
  replace f_11 := f_11.kept (fun j hj => hq _ (by (try dsimp only); omega))
  replace f_13 := f_13.kept (fun j hj => hq _ (by (try dsimp only); omega))
  clear hq
  have f_15 := hB1
  clear hB1
  refine n_qast (N := 8) hx hb hK f_9 f_15.1 rfl hS (show h ≤ (h + 9) by omega) (show ¬ ((2 : Int32) < 0 ∨ 8 ≤ (2 : Int32).toNatClampNeg) by decide) dX4_init_87 (fun H locs hn hq hS9 => ?_)
  replace hz : H.size = h + 25 := hS9.1.trans hzb
  replace hS := hS9
  clear hS9
  replace f_9 : qA G (h + 9) 8 (va_up (va_up (va_up (fun _ => none) (0 : Int32).toNatClampNeg (some (h + 10))) (1 : Int32).toNatClampNeg (some (h + 15))) (2 : Int32).toNatClampNeg (some (h + 20))) H := hn
  clear hn
  replace f_0 := f_0.kept (hq _ (by omega))
  replace f_2 := f_2.kept (hq _ (by omega)) (hq _ (by omega))
  replace f_4 := f_4.kept (hq _ (by omega)) (hq _ (by omega))
  replace f_6 := f_6.kept (hq _ (by omega)) (hq _ (by omega))
  replace f_8 := f_8.kept (hq _ (by omega)) (hq _ (by omega))
  replace f_11 := f_11.kept (fun j hj => hq _ (by (try dsimp only); omega))
  replace f_13 := f_13.kept (fun j hj => hq _ (by (try dsimp only); omega))
  replace f_15 := f_15.kept (fun j hj => hq _ (by (try dsimp only); omega))
  clear hq
  refine lv_iinc (v := 3) (lv' := [(1, .int 3), (0, .ref h)]) hx hb dX4_init_88 hl (k := 0) rfl (by decide) (by decide) rfl (fun ls hl => ?_)
  refine lv_goto (tgt := 69) hx hb dX4_init_91 (by decide) ?_
  refine lv_iload_n hx hb dX4_init_69 rfl (lv_at hl 0 rfl) ?_
  refine lv_bipush (v := 8) hx hb dX4_init_70 (by decide +kernel) ?_
  refine lv_icmp_ge (tgt := 94) hx hb dX4_init_72 (by decide) (fun h_4 => absurd h_4 (by decide)) (fun h_4 => ?_)
  refine lv_aload_n hx hb dX4_init_75 rfl (lv_at hl 1 rfl) ?_
  refine r_get (C := RX4) (T := TX4) (N := 6) hx hb hts i_X4_init_X4 hown hK f_0 rfl 4 (by decide) k_X4_init_fieldLink_35 rfl rfl dX4_init_76 ?_
  refine lv_iload_n hx hb dX4_init_79 rfl (lv_at hl 0 rfl) ?_
  refine n_new (C := RX1) (T := TX1) (N := 8) (ci := 1) (fs := [.int 0, .int 0, .int 0, .int 0, .null, .null, .null, .int 0]) hx hb hts i_X4_init_X1 tyX1 tyX1_ok hown k_X4_init_classLink_33 k_X4_init_ins_X1 k_X4_init_ini_X1 hK rfl (by decide) hS (by first | exact Nat.le_of_ble_eq_true rfl | exact Nat.le_refl _) (by first | exact Nat.le_of_ble_eq_true rfl | exact Nat.le_refl _) dX4_init_80 (h := h + 25) hz (fun H f_16 z1 hq hS1 => ?_)
  replace hg := (hg.of hS).go (A1 := fun _ => False) (by omega) (fun _ z => z.elim) (fun q z _ => hq q (by omega))
  replace hS := hS1
  clear hS1
  replace hzb : H.size = h + 26 := by omega
  replace hz := hzb
  clear z1
  replace f_0 := f_0.kept (hq _ (by omega))
  replace f_2 := f_2.kept (hq _ (by omega)) (hq _ (by omega))
  replace f_4 := f_4.kept (hq _ (by omega)) (hq _ (by omega))
  replace f_6 := f_6.kept (hq _ (by omega)) (hq _ (by omega))
  replace f_8 := f_8.kept (hq _ (by omega)) (hq _ (by omega))
  replace f_9 := f_9.kept (hq _ (by omega))
  replace f_11 := f_11.kept (fun j hj => hq _ (by (try dsimp only); omega))
  replace f_13 := f_13.kept (fun j hj => hq _ (by (try dsimp only); omega))
  replace f_15 := f_15.kept (fun j hj => hq _ (by (try dsimp only); omega))
  clear hq
  refine lv_dup hx hb dX4_init_83 rfl ?_
  refine n_call (va_runIN (As := []) (rest := [.ref (h + 25), .int 3, .ref (h + 9)]) hC (c_X1_init l G (h + 25)) ⟨va_cnB 0 hts gX4_init_X1_init_n39 rfl rfl rfl (hK.2 _ (List.mem_of_getElem? (i := 7) rfl)) (hts _ k_X4_init_ii_X1_init) kd_X1_init ⟨Nat.le_of_ble_eq_true rfl, Nat.le_of_ble_eq_true rfl⟩, rfl, (hts _ k_X4_init_im_X1_init)⟩ (nP_preS hK hO (show _ ∧ _ from ⟨hz, f_16⟩)) rfl rfl hl.1 rfl (lv_room (Nat.le_of_ble_eq_true rfl)) dX4_init_84 ⟨(by first | exact Nat.le_of_ble_eq_true rfl | exact Nat.le_refl _), (by first | exact Nat.le_of_ble_eq_true rfl | exact Nat.le_refl _)⟩) hS (fun q z => Nat.le_trans (show h ≤ (h + 25) by omega) z) (fun H locs hB1 hz1 hq1 hS1 => ?_)
  replace hg := (hg.of hS).go hz1 (fun q z => Nat.le_trans (show h ≤ (h + 25) by omega) z) hq1
  replace hS := hS1
  clear hS1
  obtain ⟨hz2, hB1⟩ := hB1
  have hq := fun (q : Nat) (z : q < (h + 25)) => hq1 q (by omega) (show ¬ (h + 25) ≤ q by omega)
  clear hq1 hz1
  replace hzb : H.size = h + 30 := by omega
  replace hz := hzb
  clear hz2 f_16
  replace f_0 := f_0.kept (hq _ (by omega))
  replace f_2 := f_2.kept (hq _ (by omega)) (hq _ (by omega))
  replace f_4 := f_4.kept (hq _ (by omega)) (hq _ (by omega))
  replace f_6 := f_6.kept (hq _ (by omega)) (hq _ (by omega))
  replace f_8 := f_8.kept (hq _ (by omega)) (hq _ (by omega))
  replace f_9 := f_9.kept (hq _ (by omega))
  replace f_11 := f_11.kept (fun j hj => hq _ (by (try dsimp only); omega))
  replace f_13 := f_13.kept (fun j hj => hq _ (by (try dsimp only); omega))
  replace f_15 := f_15.kept (fun j hj => hq _ (by (try dsimp only); omega))
  clear hq
  have f_17 := hB1
  clear hB1
  refine n_qast (N := 8) hx hb hK f_9 f_17.1 rfl hS (show h ≤ (h + 9) by omega) (show ¬ ((3 : Int32) < 0 ∨ 8 ≤ (3 : Int32).toNatClampNeg) by decide) dX4_init_87 (fun H locs hn hq hS9 => ?_)
  replace hz : H.size = h + 30 := hS9.1.trans hzb
  replace hS := hS9
  clear hS9
  replace f_9 : qA G (h + 9) 8 (va_up (va_up (va_up (va_up (fun _ => none) (0 : Int32).toNatClampNeg (some (h + 10))) (1 : Int32).toNatClampNeg (some (h + 15))) (2 : Int32).toNatClampNeg (some (h + 20))) (3 : Int32).toNatClampNeg (some (h + 25))) H := hn
  clear hn
  replace f_0 := f_0.kept (hq _ (by omega))
  replace f_2 := f_2.kept (hq _ (by omega)) (hq _ (by omega))
  replace f_4 := f_4.kept (hq _ (by omega)) (hq _ (by omega))
  replace f_6 := f_6.kept (hq _ (by omega)) (hq _ (by omega))
  replace f_8 := f_8.kept (hq _ (by omega)) (hq _ (by omega))
  replace f_11 := f_11.kept (fun j hj => hq _ (by (try dsimp only); omega))
  replace f_13 := f_13.kept (fun j hj => hq _ (by (try dsimp only); omega))
  replace f_15 := f_15.kept (fun j hj => hq _ (by (try dsimp only); omega))
  replace f_17 := f_17.kept (fun j hj => hq _ (by (try dsimp only); omega))
  clear hq
  refine lv_iinc (v := 4) (lv' := [(1, .int 4), (0, .ref h)]) hx hb dX4_init_88 hl (k := 0) rfl (by decide) (by decide) rfl (fun ls hl => ?_)
  refine lv_goto (tgt := 69) hx hb dX4_init_91 (by decide) ?_
  refine lv_iload_n hx hb dX4_init_69 rfl (lv_at hl 0 rfl) ?_
  refine lv_bipush (v := 8) hx hb dX4_init_70 (by decide +kernel) ?_
  refine lv_icmp_ge (tgt := 94) hx hb dX4_init_72 (by decide) (fun h_5 => absurd h_5 (by decide)) (fun h_5 => ?_)
  refine lv_aload_n hx hb dX4_init_75 rfl (lv_at hl 1 rfl) ?_
  refine r_get (C := RX4) (T := TX4) (N := 6) hx hb hts i_X4_init_X4 hown hK f_0 rfl 4 (by decide) k_X4_init_fieldLink_35 rfl rfl dX4_init_76 ?_
  refine lv_iload_n hx hb dX4_init_79 rfl (lv_at hl 0 rfl) ?_
  refine n_new (C := RX1) (T := TX1) (N := 8) (ci := 1) (fs := [.int 0, .int 0, .int 0, .int 0, .null, .null, .null, .int 0]) hx hb hts i_X4_init_X1 tyX1 tyX1_ok hown k_X4_init_classLink_33 k_X4_init_ins_X1 k_X4_init_ini_X1 hK rfl (by decide) hS (by first | exact Nat.le_of_ble_eq_true rfl | exact Nat.le_refl _) (by first | exact Nat.le_of_ble_eq_true rfl | exact Nat.le_refl _) dX4_init_80 (h := h + 30) hz (fun H f_18 z1 hq hS1 => ?_)
  replace hg := (hg.of hS).go (A1 := fun _ => False) (by omega) (fun _ z => z.elim) (fun q z _ => hq q (by omega))
  replace hS := hS1
  clear hS1
  replace hzb : H.size = h + 31 := by omega
  replace hz := hzb
  clear z1
  replace f_0 := f_0.kept (hq _ (by omega))
  replace f_2 := f_2.kept (hq _ (by omega)) (hq _ (by omega))
  replace f_4 := f_4.kept (hq _ (by omega)) (hq _ (by omega))
  replace f_6 := f_6.kept (hq _ (by omega)) (hq _ (by omega))
  replace f_8 := f_8.kept (hq _ (by omega)) (hq _ (by omega))
  replace f_9 := f_9.kept (hq _ (by omega))
  replace f_11 := f_11.kept (fun j hj => hq _ (by (try dsimp only); omega))
  replace f_13 := f_13.kept (fun j hj => hq _ (by (try dsimp only); omega))
  replace f_15 := f_15.kept (fun j hj => hq _ (by (try dsimp only); omega))
  replace f_17 := f_17.kept (fun j hj => hq _ (by (try dsimp only); omega))
  clear hq
  refine lv_dup hx hb dX4_init_83 rfl ?_
  refine n_call (va_runIN (As := []) (rest := [.ref (h + 30), .int 4, .ref (h + 9)]) hC (c_X1_init l G (h + 30)) ⟨va_cnB 0 hts gX4_init_X1_init_n39 rfl rfl rfl (hK.2 _ (List.mem_of_getElem? (i := 7) rfl)) (hts _ k_X4_init_ii_X1_init) kd_X1_init ⟨Nat.le_of_ble_eq_true rfl, Nat.le_of_ble_eq_true rfl⟩, rfl, (hts _ k_X4_init_im_X1_init)⟩ (nP_preS hK hO (show _ ∧ _ from ⟨hz, f_18⟩)) rfl rfl hl.1 rfl (lv_room (Nat.le_of_ble_eq_true rfl)) dX4_init_84 ⟨(by first | exact Nat.le_of_ble_eq_true rfl | exact Nat.le_refl _), (by first | exact Nat.le_of_ble_eq_true rfl | exact Nat.le_refl _)⟩) hS (fun q z => Nat.le_trans (show h ≤ (h + 30) by omega) z) (fun H locs hB1 hz1 hq1 hS1 => ?_)
  replace hg := (hg.of hS).go hz1 (fun q z => Nat.le_trans (show h ≤ (h + 30) by omega) z) hq1
  replace hS := hS1
  clear hS1
  obtain ⟨hz2, hB1⟩ := hB1
  have hq := fun (q : Nat) (z : q < (h + 30)) => hq1 q (by omega) (show ¬ (h + 30) ≤ q by omega)
  clear hq1 hz1
  replace hzb : H.size = h + 35 := by omega
  replace hz := hzb
  clear hz2 f_18
  replace f_0 := f_0.kept (hq _ (by omega))
  replace f_2 := f_2.kept (hq _ (by omega)) (hq _ (by omega))
  replace f_4 := f_4.kept (hq _ (by omega)) (hq _ (by omega))
  replace f_6 := f_6.kept (hq _ (by omega)) (hq _ (by omega))
  replace f_8 := f_8.kept (hq _ (by omega)) (hq _ (by omega))
  replace f_9 := f_9.kept (hq _ (by omega))
  replace f_11 := f_11.kept (fun j hj => hq _ (by (try dsimp only); omega))
  replace f_13 := f_13.kept (fun j hj => hq _ (by (try dsimp only); omega))
  replace f_15 := f_15.kept (fun j hj => hq _ (by (try dsimp only); omega))
  replace f_17 := f_17.kept (fun j hj => hq _ (by (try dsimp only); omega))
  clear hq
  have f_19 := hB1
  clear hB1
  refine n_qast (N := 8) hx hb hK f_9 f_19.1 rfl hS (show h ≤ (h + 9) by omega) (show ¬ ((4 : Int32) < 0 ∨ 8 ≤ (4 : Int32).toNatClampNeg) by decide) dX4_init_87 (fun H locs hn hq hS9 => ?_)
  replace hz : H.size = h + 35 := hS9.1.trans hzb
  replace hS := hS9
  clear hS9
  replace f_9 : qA G (h + 9) 8 (va_up (va_up (va_up (va_up (va_up (fun _ => none) (0 : Int32).toNatClampNeg (some (h + 10))) (1 : Int32).toNatClampNeg (some (h + 15))) (2 : Int32).toNatClampNeg (some (h + 20))) (3 : Int32).toNatClampNeg (some (h + 25))) (4 : Int32).toNatClampNeg (some (h + 30))) H := hn
  clear hn
  replace f_0 := f_0.kept (hq _ (by omega))
  replace f_2 := f_2.kept (hq _ (by omega)) (hq _ (by omega))
  replace f_4 := f_4.kept (hq _ (by omega)) (hq _ (by omega))
  replace f_6 := f_6.kept (hq _ (by omega)) (hq _ (by omega))
  replace f_8 := f_8.kept (hq _ (by omega)) (hq _ (by omega))
  replace f_11 := f_11.kept (fun j hj => hq _ (by (try dsimp only); omega))
  replace f_13 := f_13.kept (fun j hj => hq _ (by (try dsimp only); omega))
  replace f_15 := f_15.kept (fun j hj => hq _ (by (try dsimp only); omega))
  replace f_17 := f_17.kept (fun j hj => hq _ (by (try dsimp only); omega))
  replace f_19 := f_19.kept (fun j hj => hq _ (by (try dsimp only); omega))
  clear hq
  refine lv_iinc (v := 5) (lv' := [(1, .int 5), (0, .ref h)]) hx hb dX4_init_88 hl (k := 0) rfl (by decide) (by decide) rfl (fun ls hl => ?_)
  refine lv_goto (tgt := 69) hx hb dX4_init_91 (by decide) ?_
  refine lv_iload_n hx hb dX4_init_69 rfl (lv_at hl 0 rfl) ?_
  refine lv_bipush (v := 8) hx hb dX4_init_70 (by decide +kernel) ?_
  refine lv_icmp_ge (tgt := 94) hx hb dX4_init_72 (by decide) (fun h_6 => absurd h_6 (by decide)) (fun h_6 => ?_)
  refine lv_aload_n hx hb dX4_init_75 rfl (lv_at hl 1 rfl) ?_
  refine r_get (C := RX4) (T := TX4) (N := 6) hx hb hts i_X4_init_X4 hown hK f_0 rfl 4 (by decide) k_X4_init_fieldLink_35 rfl rfl dX4_init_76 ?_
  refine lv_iload_n hx hb dX4_init_79 rfl (lv_at hl 0 rfl) ?_
  refine n_new (C := RX1) (T := TX1) (N := 8) (ci := 1) (fs := [.int 0, .int 0, .int 0, .int 0, .null, .null, .null, .int 0]) hx hb hts i_X4_init_X1 tyX1 tyX1_ok hown k_X4_init_classLink_33 k_X4_init_ins_X1 k_X4_init_ini_X1 hK rfl (by decide) hS (by first | exact Nat.le_of_ble_eq_true rfl | exact Nat.le_refl _) (by first | exact Nat.le_of_ble_eq_true rfl | exact Nat.le_refl _) dX4_init_80 (h := h + 35) hz (fun H f_20 z1 hq hS1 => ?_)
  replace hg := (hg.of hS).go (A1 := fun _ => False) (by omega) (fun _ z => z.elim) (fun q z _ => hq q (by omega))
  replace hS := hS1
  clear hS1
  replace hzb : H.size = h + 36 := by omega
  replace hz := hzb
  clear z1
  replace f_0 := f_0.kept (hq _ (by omega))
  replace f_2 := f_2.kept (hq _ (by omega)) (hq _ (by omega))
  replace f_4 := f_4.kept (hq _ (by omega)) (hq _ (by omega))
  replace f_6 := f_6.kept (hq _ (by omega)) (hq _ (by omega))
  replace f_8 := f_8.kept (hq _ (by omega)) (hq _ (by omega))
  replace f_9 := f_9.kept (hq _ (by omega))
  replace f_11 := f_11.kept (fun j hj => hq _ (by (try dsimp only); omega))
  replace f_13 := f_13.kept (fun j hj => hq _ (by (try dsimp only); omega))
  replace f_15 := f_15.kept (fun j hj => hq _ (by (try dsimp only); omega))
  replace f_17 := f_17.kept (fun j hj => hq _ (by (try dsimp only); omega))
  replace f_19 := f_19.kept (fun j hj => hq _ (by (try dsimp only); omega))
  clear hq
  refine lv_dup hx hb dX4_init_83 rfl ?_
  refine n_call (va_runIN (As := []) (rest := [.ref (h + 35), .int 5, .ref (h + 9)]) hC (c_X1_init l G (h + 35)) ⟨va_cnB 0 hts gX4_init_X1_init_n39 rfl rfl rfl (hK.2 _ (List.mem_of_getElem? (i := 7) rfl)) (hts _ k_X4_init_ii_X1_init) kd_X1_init ⟨Nat.le_of_ble_eq_true rfl, Nat.le_of_ble_eq_true rfl⟩, rfl, (hts _ k_X4_init_im_X1_init)⟩ (nP_preS hK hO (show _ ∧ _ from ⟨hz, f_20⟩)) rfl rfl hl.1 rfl (lv_room (Nat.le_of_ble_eq_true rfl)) dX4_init_84 ⟨(by first | exact Nat.le_of_ble_eq_true rfl | exact Nat.le_refl _), (by first | exact Nat.le_of_ble_eq_true rfl | exact Nat.le_refl _)⟩) hS (fun q z => Nat.le_trans (show h ≤ (h + 35) by omega) z) (fun H locs hB1 hz1 hq1 hS1 => ?_)
  replace hg := (hg.of hS).go hz1 (fun q z => Nat.le_trans (show h ≤ (h + 35) by omega) z) hq1
  replace hS := hS1
  clear hS1
  obtain ⟨hz2, hB1⟩ := hB1
  have hq := fun (q : Nat) (z : q < (h + 35)) => hq1 q (by omega) (show ¬ (h + 35) ≤ q by omega)
  clear hq1 hz1
  replace hzb : H.size = h + 40 := by omega
  replace hz := hzb
  clear hz2 f_20
  replace f_0 := f_0.kept (hq _ (by omega))
  replace f_2 := f_2.kept (hq _ (by omega)) (hq _ (by omega))
  replace f_4 := f_4.kept (hq _ (by omega)) (hq _ (by omega))
  replace f_6 := f_6.kept (hq _ (by omega)) (hq _ (by omega))
  replace f_8 := f_8.kept (hq _ (by omega)) (hq _ (by omega))
  replace f_9 := f_9.kept (hq _ (by omega))
  replace f_11 := f_11.kept (fun j hj => hq _ (by (try dsimp only); omega))
  replace f_13 := f_13.kept (fun j hj => hq _ (by (try dsimp only); omega))
  replace f_15 := f_15.kept (fun j hj => hq _ (by (try dsimp only); omega))
  replace f_17 := f_17.kept (fun j hj => hq _ (by (try dsimp only); omega))
  replace f_19 := f_19.kept (fun j hj => hq _ (by (try dsimp only); omega))
  clear hq
  have f_21 := hB1
  clear hB1
  refine n_qast (N := 8) hx hb hK f_9 f_21.1 rfl hS (show h ≤ (h + 9) by omega) (show ¬ ((5 : Int32) < 0 ∨ 8 ≤ (5 : Int32).toNatClampNeg) by decide) dX4_init_87 (fun H locs hn hq hS9 => ?_)
  replace hz : H.size = h + 40 := hS9.1.trans hzb
  replace hS := hS9
  clear hS9
  replace f_9 : qA G (h + 9) 8 (va_up (va_up (va_up (va_up (va_up (va_up (fun _ => none) (0 : Int32).toNatClampNeg (some (h + 10))) (1 : Int32).toNatClampNeg (some (h + 15))) (2 : Int32).toNatClampNeg (some (h + 20))) (3 : Int32).toNatClampNeg (some (h + 25))) (4 : Int32).toNatClampNeg (some (h + 30))) (5 : Int32).toNatClampNeg (some (h + 35))) H := hn
  clear hn
  replace f_0 := f_0.kept (hq _ (by omega))
  replace f_2 := f_2.kept (hq _ (by omega)) (hq _ (by omega))
  replace f_4 := f_4.kept (hq _ (by omega)) (hq _ (by omega))
  replace f_6 := f_6.kept (hq _ (by omega)) (hq _ (by omega))
  replace f_8 := f_8.kept (hq _ (by omega)) (hq _ (by omega))
  replace f_11 := f_11.kept (fun j hj => hq _ (by (try dsimp only); omega))
  replace f_13 := f_13.kept (fun j hj => hq _ (by (try dsimp only); omega))
  replace f_15 := f_15.kept (fun j hj => hq _ (by (try dsimp only); omega))
  replace f_17 := f_17.kept (fun j hj => hq _ (by (try dsimp only); omega))
  replace f_19 := f_19.kept (fun j hj => hq _ (by (try dsimp only); omega))
  replace f_21 := f_21.kept (fun j hj => hq _ (by (try dsimp only); omega))
  clear hq
  refine lv_iinc (v := 6) (lv' := [(1, .int 6), (0, .ref h)]) hx hb dX4_init_88 hl (k := 0) rfl (by decide) (by decide) rfl (fun ls hl => ?_)
  refine lv_goto (tgt := 69) hx hb dX4_init_91 (by decide) ?_
  refine lv_iload_n hx hb dX4_init_69 rfl (lv_at hl 0 rfl) ?_
  refine lv_bipush (v := 8) hx hb dX4_init_70 (by decide +kernel) ?_
  refine lv_icmp_ge (tgt := 94) hx hb dX4_init_72 (by decide) (fun h_7 => absurd h_7 (by decide)) (fun h_7 => ?_)
  refine lv_aload_n hx hb dX4_init_75 rfl (lv_at hl 1 rfl) ?_
  refine r_get (C := RX4) (T := TX4) (N := 6) hx hb hts i_X4_init_X4 hown hK f_0 rfl 4 (by decide) k_X4_init_fieldLink_35 rfl rfl dX4_init_76 ?_
  refine lv_iload_n hx hb dX4_init_79 rfl (lv_at hl 0 rfl) ?_
  refine n_new (C := RX1) (T := TX1) (N := 8) (ci := 1) (fs := [.int 0, .int 0, .int 0, .int 0, .null, .null, .null, .int 0]) hx hb hts i_X4_init_X1 tyX1 tyX1_ok hown k_X4_init_classLink_33 k_X4_init_ins_X1 k_X4_init_ini_X1 hK rfl (by decide) hS (by first | exact Nat.le_of_ble_eq_true rfl | exact Nat.le_refl _) (by first | exact Nat.le_of_ble_eq_true rfl | exact Nat.le_refl _) dX4_init_80 (h := h + 40) hz (fun H f_22 z1 hq hS1 => ?_)
  replace hg := (hg.of hS).go (A1 := fun _ => False) (by omega) (fun _ z => z.elim) (fun q z _ => hq q (by omega))
  replace hS := hS1
  clear hS1
  replace hzb : H.size = h + 41 := by omega
  replace hz := hzb
  clear z1
  replace f_0 := f_0.kept (hq _ (by omega))
  replace f_2 := f_2.kept (hq _ (by omega)) (hq _ (by omega))
  replace f_4 := f_4.kept (hq _ (by omega)) (hq _ (by omega))
  replace f_6 := f_6.kept (hq _ (by omega)) (hq _ (by omega))
  replace f_8 := f_8.kept (hq _ (by omega)) (hq _ (by omega))
  replace f_9 := f_9.kept (hq _ (by omega))
  replace f_11 := f_11.kept (fun j hj => hq _ (by (try dsimp only); omega))
  replace f_13 := f_13.kept (fun j hj => hq _ (by (try dsimp only); omega))
  replace f_15 := f_15.kept (fun j hj => hq _ (by (try dsimp only); omega))
  replace f_17 := f_17.kept (fun j hj => hq _ (by (try dsimp only); omega))
  replace f_19 := f_19.kept (fun j hj => hq _ (by (try dsimp only); omega))
  replace f_21 := f_21.kept (fun j hj => hq _ (by (try dsimp only); omega))
  clear hq
  refine lv_dup hx hb dX4_init_83 rfl ?_
  refine n_call (va_runIN (As := []) (rest := [.ref (h + 40), .int 6, .ref (h + 9)]) hC (c_X1_init l G (h + 40)) ⟨va_cnB 0 hts gX4_init_X1_init_n39 rfl rfl rfl (hK.2 _ (List.mem_of_getElem? (i := 7) rfl)) (hts _ k_X4_init_ii_X1_init) kd_X1_init ⟨Nat.le_of_ble_eq_true rfl, Nat.le_of_ble_eq_true rfl⟩, rfl, (hts _ k_X4_init_im_X1_init)⟩ (nP_preS hK hO (show _ ∧ _ from ⟨hz, f_22⟩)) rfl rfl hl.1 rfl (lv_room (Nat.le_of_ble_eq_true rfl)) dX4_init_84 ⟨(by first | exact Nat.le_of_ble_eq_true rfl | exact Nat.le_refl _), (by first | exact Nat.le_of_ble_eq_true rfl | exact Nat.le_refl _)⟩) hS (fun q z => Nat.le_trans (show h ≤ (h + 40) by omega) z) (fun H locs hB1 hz1 hq1 hS1 => ?_)
  replace hg := (hg.of hS).go hz1 (fun q z => Nat.le_trans (show h ≤ (h + 40) by omega) z) hq1
  replace hS := hS1
  clear hS1
  obtain ⟨hz2, hB1⟩ := hB1
  have hq := fun (q : Nat) (z : q < (h + 40)) => hq1 q (by omega) (show ¬ (h + 40) ≤ q by omega)
  clear hq1 hz1
  replace hzb : H.size = h + 45 := by omega
  replace hz := hzb
  clear hz2 f_22
  replace f_0 := f_0.kept (hq _ (by omega))
  replace f_2 := f_2.kept (hq _ (by omega)) (hq _ (by omega))
  replace f_4 := f_4.kept (hq _ (by omega)) (hq _ (by omega))
  replace f_6 := f_6.kept (hq _ (by omega)) (hq _ (by omega))
  replace f_8 := f_8.kept (hq _ (by omega)) (hq _ (by omega))
  replace f_9 := f_9.kept (hq _ (by omega))
  replace f_11 := f_11.kept (fun j hj => hq _ (by (try dsimp only); omega))
  replace f_13 := f_13.kept (fun j hj => hq _ (by (try dsimp only); omega))
  replace f_15 := f_15.kept (fun j hj => hq _ (by (try dsimp only); omega))
  replace f_17 := f_17.kept (fun j hj => hq _ (by (try dsimp only); omega))
  replace f_19 := f_19.kept (fun j hj => hq _ (by (try dsimp only); omega))
  replace f_21 := f_21.kept (fun j hj => hq _ (by (try dsimp only); omega))
  clear hq
  have f_23 := hB1
  clear hB1
  refine n_qast (N := 8) hx hb hK f_9 f_23.1 rfl hS (show h ≤ (h + 9) by omega) (show ¬ ((6 : Int32) < 0 ∨ 8 ≤ (6 : Int32).toNatClampNeg) by decide) dX4_init_87 (fun H locs hn hq hS9 => ?_)
  replace hz : H.size = h + 45 := hS9.1.trans hzb
  replace hS := hS9
  clear hS9
  replace f_9 : qA G (h + 9) 8 (va_up (va_up (va_up (va_up (va_up (va_up (va_up (fun _ => none) (0 : Int32).toNatClampNeg (some (h + 10))) (1 : Int32).toNatClampNeg (some (h + 15))) (2 : Int32).toNatClampNeg (some (h + 20))) (3 : Int32).toNatClampNeg (some (h + 25))) (4 : Int32).toNatClampNeg (some (h + 30))) (5 : Int32).toNatClampNeg (some (h + 35))) (6 : Int32).toNatClampNeg (some (h + 40))) H := hn
  clear hn
  replace f_0 := f_0.kept (hq _ (by omega))
  replace f_2 := f_2.kept (hq _ (by omega)) (hq _ (by omega))
  replace f_4 := f_4.kept (hq _ (by omega)) (hq _ (by omega))
  replace f_6 := f_6.kept (hq _ (by omega)) (hq _ (by omega))
  replace f_8 := f_8.kept (hq _ (by omega)) (hq _ (by omega))
  replace f_11 := f_11.kept (fun j hj => hq _ (by (try dsimp only); omega))
  replace f_13 := f_13.kept (fun j hj => hq _ (by (try dsimp only); omega))
  replace f_15 := f_15.kept (fun j hj => hq _ (by (try dsimp only); omega))
  replace f_17 := f_17.kept (fun j hj => hq _ (by (try dsimp only); omega))
  replace f_19 := f_19.kept (fun j hj => hq _ (by (try dsimp only); omega))
  replace f_21 := f_21.kept (fun j hj => hq _ (by (try dsimp only); omega))
  replace f_23 := f_23.kept (fun j hj => hq _ (by (try dsimp only); omega))
  clear hq
  refine lv_iinc (v := 7) (lv' := [(1, .int 7), (0, .ref h)]) hx hb dX4_init_88 hl (k := 0) rfl (by decide) (by decide) rfl (fun ls hl => ?_)
  refine lv_goto (tgt := 69) hx hb dX4_init_91 (by decide) ?_
  refine lv_iload_n hx hb dX4_init_69 rfl (lv_at hl 0 rfl) ?_
  refine lv_bipush (v := 8) hx hb dX4_init_70 (by decide +kernel) ?_
  refine lv_icmp_ge (tgt := 94) hx hb dX4_init_72 (by decide) (fun h_8 => absurd h_8 (by decide)) (fun h_8 => ?_)
  refine lv_aload_n hx hb dX4_init_75 rfl (lv_at hl 1 rfl) ?_
  refine r_get (C := RX4) (T := TX4) (N := 6) hx hb hts i_X4_init_X4 hown hK f_0 rfl 4 (by decide) k_X4_init_fieldLink_35 rfl rfl dX4_init_76 ?_
  refine lv_iload_n hx hb dX4_init_79 rfl (lv_at hl 0 rfl) ?_
  refine n_new (C := RX1) (T := TX1) (N := 8) (ci := 1) (fs := [.int 0, .int 0, .int 0, .int 0, .null, .null, .null, .int 0]) hx hb hts i_X4_init_X1 tyX1 tyX1_ok hown k_X4_init_classLink_33 k_X4_init_ins_X1 k_X4_init_ini_X1 hK rfl (by decide) hS (by first | exact Nat.le_of_ble_eq_true rfl | exact Nat.le_refl _) (by first | exact Nat.le_of_ble_eq_true rfl | exact Nat.le_refl _) dX4_init_80 (h := h + 45) hz (fun H f_24 z1 hq hS1 => ?_)
  replace hg := (hg.of hS).go (A1 := fun _ => False) (by omega) (fun _ z => z.elim) (fun q z _ => hq q (by omega))
  replace hS := hS1
  clear hS1
  replace hzb : H.size = h + 46 := by omega
  replace hz := hzb
  clear z1
  replace f_0 := f_0.kept (hq _ (by omega))
  replace f_2 := f_2.kept (hq _ (by omega)) (hq _ (by omega))
  replace f_4 := f_4.kept (hq _ (by omega)) (hq _ (by omega))
  replace f_6 := f_6.kept (hq _ (by omega)) (hq _ (by omega))
  replace f_8 := f_8.kept (hq _ (by omega)) (hq _ (by omega))
  replace f_9 := f_9.kept (hq _ (by omega))
  replace f_11 := f_11.kept (fun j hj => hq _ (by (try dsimp only); omega))
  replace f_13 := f_13.kept (fun j hj => hq _ (by (try dsimp only); omega))
  replace f_15 := f_15.kept (fun j hj => hq _ (by (try dsimp only); omega))
  replace f_17 := f_17.kept (fun j hj => hq _ (by (try dsimp only); omega))
  replace f_19 := f_19.kept (fun j hj => hq _ (by (try dsimp only); omega))
  replace f_21 := f_21.kept (fun j hj => hq _ (by (try dsimp only); omega))
  replace f_23 := f_23.kept (fun j hj => hq _ (by (try dsimp only); omega))
  clear hq
  refine lv_dup hx hb dX4_init_83 rfl ?_
  refine n_call (va_runIN (As := []) (rest := [.ref (h + 45), .int 7, .ref (h + 9)]) hC (c_X1_init l G (h + 45)) ⟨va_cnB 0 hts gX4_init_X1_init_n39 rfl rfl rfl (hK.2 _ (List.mem_of_getElem? (i := 7) rfl)) (hts _ k_X4_init_ii_X1_init) kd_X1_init ⟨Nat.le_of_ble_eq_true rfl, Nat.le_of_ble_eq_true rfl⟩, rfl, (hts _ k_X4_init_im_X1_init)⟩ (nP_preS hK hO (show _ ∧ _ from ⟨hz, f_24⟩)) rfl rfl hl.1 rfl (lv_room (Nat.le_of_ble_eq_true rfl)) dX4_init_84 ⟨(by first | exact Nat.le_of_ble_eq_true rfl | exact Nat.le_refl _), (by first | exact Nat.le_of_ble_eq_true rfl | exact Nat.le_refl _)⟩) hS (fun q z => Nat.le_trans (show h ≤ (h + 45) by omega) z) (fun H locs hB1 hz1 hq1 hS1 => ?_)
  replace hg := (hg.of hS).go hz1 (fun q z => Nat.le_trans (show h ≤ (h + 45) by omega) z) hq1
  replace hS := hS1
  clear hS1
  obtain ⟨hz2, hB1⟩ := hB1
  have hq := fun (q : Nat) (z : q < (h + 45)) => hq1 q (by omega) (show ¬ (h + 45) ≤ q by omega)
  clear hq1 hz1
  replace hzb : H.size = h + 50 := by omega
  replace hz := hzb
  clear hz2 f_24
  replace f_0 := f_0.kept (hq _ (by omega))
  replace f_2 := f_2.kept (hq _ (by omega)) (hq _ (by omega))
  replace f_4 := f_4.kept (hq _ (by omega)) (hq _ (by omega))
  replace f_6 := f_6.kept (hq _ (by omega)) (hq _ (by omega))
  replace f_8 := f_8.kept (hq _ (by omega)) (hq _ (by omega))
  replace f_9 := f_9.kept (hq _ (by omega))
  replace f_11 := f_11.kept (fun j hj => hq _ (by (try dsimp only); omega))
  replace f_13 := f_13.kept (fun j hj => hq _ (by (try dsimp only); omega))
  replace f_15 := f_15.kept (fun j hj => hq _ (by (try dsimp only); omega))
  replace f_17 := f_17.kept (fun j hj => hq _ (by (try dsimp only); omega))
  replace f_19 := f_19.kept (fun j hj => hq _ (by (try dsimp only); omega))
  replace f_21 := f_21.kept (fun j hj => hq _ (by (try dsimp only); omega))
  replace f_23 := f_23.kept (fun j hj => hq _ (by (try dsimp only); omega))
  clear hq
  have f_25 := hB1
  clear hB1
  refine n_qast (N := 8) hx hb hK f_9 f_25.1 rfl hS (show h ≤ (h + 9) by omega) (show ¬ ((7 : Int32) < 0 ∨ 8 ≤ (7 : Int32).toNatClampNeg) by decide) dX4_init_87 (fun H locs hn hq hS9 => ?_)
  replace hz : H.size = h + 50 := hS9.1.trans hzb
  replace hS := hS9
  clear hS9
  replace f_9 : qA G (h + 9) 8 (va_up (va_up (va_up (va_up (va_up (va_up (va_up (va_up (fun _ => none) (0 : Int32).toNatClampNeg (some (h + 10))) (1 : Int32).toNatClampNeg (some (h + 15))) (2 : Int32).toNatClampNeg (some (h + 20))) (3 : Int32).toNatClampNeg (some (h + 25))) (4 : Int32).toNatClampNeg (some (h + 30))) (5 : Int32).toNatClampNeg (some (h + 35))) (6 : Int32).toNatClampNeg (some (h + 40))) (7 : Int32).toNatClampNeg (some (h + 45))) H := hn
  clear hn
  replace f_0 := f_0.kept (hq _ (by omega))
  replace f_2 := f_2.kept (hq _ (by omega)) (hq _ (by omega))
  replace f_4 := f_4.kept (hq _ (by omega)) (hq _ (by omega))
  replace f_6 := f_6.kept (hq _ (by omega)) (hq _ (by omega))
  replace f_8 := f_8.kept (hq _ (by omega)) (hq _ (by omega))
  replace f_11 := f_11.kept (fun j hj => hq _ (by (try dsimp only); omega))
  replace f_13 := f_13.kept (fun j hj => hq _ (by (try dsimp only); omega))
  replace f_15 := f_15.kept (fun j hj => hq _ (by (try dsimp only); omega))
  replace f_17 := f_17.kept (fun j hj => hq _ (by (try dsimp only); omega))
  replace f_19 := f_19.kept (fun j hj => hq _ (by (try dsimp only); omega))
  replace f_21 := f_21.kept (fun j hj => hq _ (by (try dsimp only); omega))
  replace f_23 := f_23.kept (fun j hj => hq _ (by (try dsimp only); omega))
  replace f_25 := f_25.kept (fun j hj => hq _ (by (try dsimp only); omega))
  clear hq
  refine lv_iinc (v := 8) (lv' := [(1, .int 8), (0, .ref h)]) hx hb dX4_init_88 hl (k := 0) rfl (by decide) (by decide) rfl (fun ls hl => ?_)
  refine lv_goto (tgt := 69) hx hb dX4_init_91 (by decide) ?_
  refine lv_iload_n hx hb dX4_init_69 rfl (lv_at hl 0 rfl) ?_
  refine lv_bipush (v := 8) hx hb dX4_init_70 (by decide +kernel) ?_
  refine lv_icmp_ge (tgt := 94) hx hb dX4_init_72 (by decide) (fun h_9 => ?_) (fun h_9 => absurd (by decide) h_9)
  exact n_vret hx hb hr hlocks dX4_init_94 hg hS ⟨hz, (⟨f_0, f_2, f_4, f_6, f_8, ⟨_, f_9, (fun i hi => match i, hi with | 0, _ => rfl | 1, _ => rfl | 2, _ => rfl | 3, _ => rfl | 4, _ => rfl | 5, _ => rfl | 6, _ => rfl | 7, _ => rfl)⟩, (fun i hi => match i, hi with | 0, _ => (LwAt.cong f_11 (fun j => by (try dsimp only); omega)) | 1, _ => (LwAt.cong f_13 (fun j => by (try dsimp only); omega)) | 2, _ => (LwAt.cong f_15 (fun j => by (try dsimp only); omega)) | 3, _ => (LwAt.cong f_17 (fun j => by (try dsimp only); omega)) | 4, _ => (LwAt.cong f_19 (fun j => by (try dsimp only); omega)) | 5, _ => (LwAt.cong f_21 (fun j => by (try dsimp only); omega)) | 6, _ => (LwAt.cong f_23 (fun j => by (try dsimp only); omega)) | 7, _ => (LwAt.cong f_25 (fun j => by (try dsimp only); omega))), Nat.zero_le _⟩ : WAt G (fun j => h + j) wd0 H)⟩
def adC (h : Nat) : Nat → Nat := fun j => if j = 0 then h else h + 100 + j
theorem cN_new (h : Nat) : cN (adC h) (fun j => h + 1 + j) (fun j => h + 51 + j) := by
  have e : ∀ j, j < 3 → adC h j = h ∧ j = 0 ∨ adC h j = h + 100 + j ∧ 0 < j := fun j hj => by
    unfold adC
    by_cases z : j = 0
    · rw [if_pos z]; exact Or.inl ⟨rfl, z⟩
    · rw [if_neg z]; exact Or.inr ⟨rfl, by omega⟩
  refine ⟨fun i j hi hj hne => by (try dsimp only); omega, fun i j hi hj hne => by (try dsimp only); omega, fun i j hi hj hne => ?_, fun i j hi hj => by (try dsimp only); omega, fun i j hi hj => ?_, fun i j hi hj => ?_⟩
  · have := e i hi; have := e j hj; omega
  · have := e i hi; (try dsimp only); omega
  · have := e i hi; (try dsimp only); omega
theorem k_X5_init_oi : Cond.instanceMethod objectInit ∈ wsX5_init := by decide +kernel
theorem k_X5_init_oc : Cond.code objectInit ⟨#[0xb1]⟩ 1 none ∈ wsX5_init := by decide +kernel
theorem k_X5_init_methodLink_5 : Cond.methodLink RX5 5 objectInit ∈ wsX5_init := by decide +kernel
theorem k_X5_init_classLink_11 : Cond.classLink RX5 11 RX4 ∈ wsX5_init := by decide +kernel
theorem k_X5_init_ins_X4 : Cond.instantiable RX4 6 ∈ wsX5_init := by decide +kernel
theorem k_X5_init_ini_X4 : Cond.initialized RX4 ∈ wsX5_init := by decide +kernel
theorem i_X5_init_X4 : ∀ w ∈ wsX40, w ∈ wsX5_init := fun _ h => List.mem_cons_of_mem _ (List.mem_append_left _ (List.mem_append_left _ (List.mem_append_left _ (List.mem_append_left _ (List.mem_append_left _ (List.mem_append_right _ h))))))
theorem k_X5_init_ii_X4_init : Cond.initialized RX4 ∈ wsX5_init := by decide +kernel
theorem k_X5_init_im_X4_init : Cond.instanceMethod yX4_init ∈ wsX5_init := by decide +kernel
theorem k_X5_init_methodLink_13 : Cond.methodLink RX5 13 yX4_init ∈ wsX5_init := by decide +kernel
theorem i_X5_init_X5 : ∀ w ∈ wsX50, w ∈ wsX5_init := fun _ h => List.mem_cons_of_mem _ (List.mem_append_left _ (List.mem_append_left _ (List.mem_append_left _ (List.mem_append_left _ (List.mem_append_right _ h)))))
theorem k_X5_init_fieldLink_14 : Cond.fieldLink RX5 14 "SameWater" "now" "LSameWater$World;" ∈ wsX5_init := by decide +kernel
theorem k_X5_init_fieldLink_18 : Cond.fieldLink RX5 18 "SameWater" "taken" "LSameWater$World;" ∈ wsX5_init := by decide +kernel
theorem k_X5_init_classLink_21 : Cond.classLink RX5 21 RX0 ∈ wsX5_init := by decide +kernel
theorem k_X5_init_ins_X0 : Cond.instantiable RX0 2 ∈ wsX5_init := by decide +kernel
theorem k_X5_init_ini_X0 : Cond.initialized RX0 ∈ wsX5_init := by decide +kernel
theorem i_X5_init_X0 : ∀ w ∈ wsX00, w ∈ wsX5_init := fun _ h => List.mem_cons_of_mem _ (List.mem_append_left _ (List.mem_append_left _ (List.mem_append_left _ (List.mem_append_right _ h))))
theorem k_X5_init_ii_X0_init : Cond.initialized RX0 ∈ wsX5_init := by decide +kernel
theorem k_X5_init_im_X0_init : Cond.instanceMethod yX0_init ∈ wsX5_init := by decide +kernel
theorem k_X5_init_fieldLink_24 : Cond.fieldLink RX5 24 "SameWater" "acts" "LSameWater$Acts;" ∈ wsX5_init := by decide +kernel
theorem kd_X4_init : yX4_init.cls ≠ "java/lang/invoke/MethodHandle" ∧ yX4_init.cls ≠ "java/lang/invoke/VarHandle" ∧ (parseMethodDescriptor yX4_init.desc).map (fun d => d.parameters.length) = some 0 := by decide +kernel
theorem kd_X0_init : yX0_init.cls ≠ "java/lang/invoke/MethodHandle" ∧ yX0_init.cls ≠ "java/lang/invoke/VarHandle" ∧ (parseMethodDescriptor yX0_init.desc).map (fun d => d.parameters.length) = some 0 := by decide +kernel
set_option maxHeartbeats 4000000 in
set_option maxRecDepth 100000 in
theorem c_X5_init (l : Launch) (G : GG) (h : Nat) : Met l yX5_init wsX5_init { frames := 4, cells := (0 + 1 + (0 + 1 + (0 + 1) + 1 + (0 + 1) + 1 + (0 + 1) + 1 + (0 + 1) + 1 + 1 + (0 + 1 + 1 + (0 + 1) + 1) + 1 + (0 + 1 + 1 + (0 + 1) + 1) + 1 + (0 + 1 + 1 + (0 + 1) + 1) + 1 + (0 + 1 + 1 + (0 + 1) + 1) + 1 + (0 + 1 + 1 + (0 + 1) + 1) + 1 + (0 + 1 + 1 + (0 + 1) + 1) + 1 + (0 + 1 + 1 + (0 + 1) + 1) + 1 + (0 + 1 + 1 + (0 + 1) + 1)) + 1 + (0 + 1 + (0 + 1) + 1 + (0 + 1) + 1 + (0 + 1) + 1 + (0 + 1) + 1 + 1 + (0 + 1 + 1 + (0 + 1) + 1) + 1 + (0 + 1 + 1 + (0 + 1) + 1) + 1 + (0 + 1 + 1 + (0 + 1) + 1) + 1 + (0 + 1 + 1 + (0 + 1) + 1) + 1 + (0 + 1 + 1 + (0 + 1) + 1) + 1 + (0 + 1 + 1 + (0 + 1) + 1) + 1 + (0 + 1 + 1 + (0 + 1) + 1) + 1 + (0 + 1 + 1 + (0 + 1) + 1)) + 1 + (0 + 1)), slots := (0 + 6 + (0 + 4 + (0 + (8 * 5)) + 4 + (0 + (16 * 7)) + 4 + (0 + (40 * 5)) + 3 + (0 + 120) + 8 + 8 + (0 + 4 + 4 + (0 + (10 * 3)) + 120) + 8 + (0 + 4 + 4 + (0 + (10 * 3)) + 120) + 8 + (0 + 4 + 4 + (0 + (10 * 3)) + 120) + 8 + (0 + 4 + 4 + (0 + (10 * 3)) + 120) + 8 + (0 + 4 + 4 + (0 + (10 * 3)) + 120) + 8 + (0 + 4 + 4 + (0 + (10 * 3)) + 120) + 8 + (0 + 4 + 4 + (0 + (10 * 3)) + 120) + 8 + (0 + 4 + 4 + (0 + (10 * 3)) + 120)) + 6 + (0 + 4 + (0 + (8 * 5)) + 4 + (0 + (16 * 7)) + 4 + (0 + (40 * 5)) + 3 + (0 + 120) + 8 + 8 + (0 + 4 + 4 + (0 + (10 * 3)) + 120) + 8 + (0 + 4 + 4 + (0 + (10 * 3)) + 120) + 8 + (0 + 4 + 4 + (0 + (10 * 3)) + 120) + 8 + (0 + 4 + 4 + (0 + (10 * 3)) + 120) + 8 + (0 + 4 + 4 + (0 + (10 * 3)) + 120) + 8 + (0 + 4 + 4 + (0 + (10 * 3)) + 120) + 8 + (0 + 4 + 4 + (0 + (10 * 3)) + 120) + 8 + (0 + 4 + 4 + (0 + (10 * 3)) + 120)) + 2 + (0 + 20)), locals := 83 } (nP G [.ref h] (fun H => H.size = h + 1 ∧ oA G h 5 [.null, .null, .int 0, .null] H)) (nwQ none (fun H => H.size = h + 103 ∧ CAt G (adC h) (fun j => h + 1 + j) (fun j => h + 51 + j) wd0 wd0 false 0 (fun _ => 0) H) (fun q => h ≤ q)) (0 + 1 + (0 + 1 + (0 + 1) + 1 + (0 + 1) + 1 + (0 + 1) + 1 + (0 + 1) + 1 + 1 + (0 + 1 + 1 + (0 + 1) + 1) + 1 + (0 + 1 + 1 + (0 + 1) + 1) + 1 + (0 + 1 + 1 + (0 + 1) + 1) + 1 + (0 + 1 + 1 + (0 + 1) + 1) + 1 + (0 + 1 + 1 + (0 + 1) + 1) + 1 + (0 + 1 + 1 + (0 + 1) + 1) + 1 + (0 + 1 + 1 + (0 + 1) + 1) + 1 + (0 + 1 + 1 + (0 + 1) + 1)) + 1 + (0 + 1 + (0 + 1) + 1 + (0 + 1) + 1 + (0 + 1) + 1 + (0 + 1) + 1 + 1 + (0 + 1 + 1 + (0 + 1) + 1) + 1 + (0 + 1 + 1 + (0 + 1) + 1) + 1 + (0 + 1 + 1 + (0 + 1) + 1) + 1 + (0 + 1 + 1 + (0 + 1) + 1) + 1 + (0 + 1 + 1 + (0 + 1) + 1) + 1 + (0 + 1 + 1 + (0 + 1) + 1) + 1 + (0 + 1 + 1 + (0 + 1) + 1) + 1 + (0 + 1 + 1 + (0 + 1) + 1)) + 1 + (0 + 1)) (0 + 6 + (0 + 4 + (0 + (8 * 5)) + 4 + (0 + (16 * 7)) + 4 + (0 + (40 * 5)) + 3 + (0 + 120) + 8 + 8 + (0 + 4 + 4 + (0 + (10 * 3)) + 120) + 8 + (0 + 4 + 4 + (0 + (10 * 3)) + 120) + 8 + (0 + 4 + 4 + (0 + (10 * 3)) + 120) + 8 + (0 + 4 + 4 + (0 + (10 * 3)) + 120) + 8 + (0 + 4 + 4 + (0 + (10 * 3)) + 120) + 8 + (0 + 4 + 4 + (0 + (10 * 3)) + 120) + 8 + (0 + 4 + 4 + (0 + (10 * 3)) + 120) + 8 + (0 + 4 + 4 + (0 + (10 * 3)) + 120)) + 6 + (0 + 4 + (0 + (8 * 5)) + 4 + (0 + (16 * 7)) + 4 + (0 + (40 * 5)) + 3 + (0 + 120) + 8 + 8 + (0 + 4 + 4 + (0 + (10 * 3)) + 120) + 8 + (0 + 4 + 4 + (0 + (10 * 3)) + 120) + 8 + (0 + 4 + 4 + (0 + (10 * 3)) + 120) + 8 + (0 + 4 + 4 + (0 + (10 * 3)) + 120) + 8 + (0 + 4 + 4 + (0 + (10 * 3)) + 120) + 8 + (0 + 4 + 4 + (0 + (10 * 3)) + 120) + 8 + (0 + 4 + 4 + (0 + (10 * 3)) + 120) + 8 + (0 + 4 + 4 + (0 + (10 * 3)) + 120)) + 2 + (0 + 20)) (fun q => h ≤ q) := by
  refine Met.ofW (cc := cX5_init) (maxL := 1) (ret := none) (by decide) rfl ?_
  intro p e s m args below meth c s₁ Bd hml hv
  obtain ⟨rfl, ⟨hK, hO⟩, hz, f_0⟩ := hv
  have hx := Bd.exec
  have hb := Bd.bytes
  have hr := Bd.returns
  have hin2 : meth.name = "<init>" := (name_of_methodNamed Bd.named Bd.method).1
  have hts := atoms_spec (ws := wsX5_init) Bd.pre
  have hown : s.vm.findClass RX5 = some m.cls := findClass_of_methodNamed Bd.named
  have hlocks := Bd.notSynchronized
  have hC : CallFix p m c cX5_init 1 s _ wsX5_init RX5 := ⟨hx, hb, hml, hown, hts⟩
  have hl := lv_entry ([.ref h]) (n := 1) (Nat.le_of_ble_eq_true rfl)
  rw [lg_entry_eq]
  generalize (lg_sl ([.ref h]) ++ List.replicate (1 - (lg_sl ([.ref h])).length) Slot.unset).toArray = ls at hl ⊢
  have hl : lv_has ls 1 [(0, .ref h)] := hl
  have hS : wS (fun q => h ≤ q) s.heap s.heap [] := wS.rf
  have hg : gW (fun q => h ≤ q) s.heap s.heap := gW.rf
  have hzb := hz
  refine lv_aload_n hx hb dX5_init_0 rfl (lv_at hl 0 rfl) ?_
  refine n_obj hx hb hts hown k_X5_init_methodLink_5 k_X5_init_oi k_X5_init_oc (by rw [hml]; exact hl.1) dX5_init_1 (Nat.le_of_ble_eq_true rfl) (Nat.le_of_ble_eq_true rfl) ?_
  refine lv_aload_n hx hb dX5_init_4 rfl (lv_at hl 0 rfl) ?_
  refine n_new (C := RX4) (T := TX4) (N := 6) (ci := 4) (fs := [.null, .null, .null, .null, .null, .int 0]) hx hb hts i_X5_init_X4 tyX4 tyX4_ok hown k_X5_init_classLink_11 k_X5_init_ins_X4 k_X5_init_ini_X4 hK rfl (by decide) hS (by first | exact Nat.le_of_ble_eq_true rfl | exact Nat.le_refl _) (by first | exact Nat.le_of_ble_eq_true rfl | exact Nat.le_refl _) dX5_init_5 (h := h + 1) hz (fun H f_1 z1 hq hS1 => ?_)
  replace hg := (hg.of hS).go (A1 := fun _ => False) (by omega) (fun _ z => z.elim) (fun q z _ => hq q (by omega))
  replace hS := hS1
  clear hS1
  replace hzb : H.size = h + 2 := by omega
  replace hz := hzb
  clear z1
  replace f_0 := f_0.kept (hq _ (by omega))
  clear hq
  refine lv_dup hx hb dX5_init_8 rfl ?_
  refine n_call (va_runI (As := []) (rest := [.ref (h + 1), .ref h]) hC (c_X4_init l G (h + 1)) (cwI 0 hts gX5_init_X4_init rfl rfl rfl (hts _ k_X5_init_ii_X4_init) (hts _ k_X5_init_methodLink_13) (hts _ k_X5_init_im_X4_init) rfl kd_X4_init ⟨Nat.le_of_ble_eq_true rfl, Nat.le_of_ble_eq_true rfl⟩) (nP_preS hK hO (show _ ∧ _ from ⟨hz, f_1⟩)) rfl rfl hl.1 rfl (lv_room (Nat.le_of_ble_eq_true rfl)) dX5_init_9 ⟨(by first | exact Nat.le_of_ble_eq_true rfl | exact Nat.le_refl _), (by first | exact Nat.le_of_ble_eq_true rfl | exact Nat.le_refl _)⟩) hS (fun q z => Nat.le_trans (show h ≤ (h + 1) by omega) z) (fun H locs hB1 hz1 hq1 hS1 => ?_)
  replace hg := (hg.of hS).go hz1 (fun q z => Nat.le_trans (show h ≤ (h + 1) by omega) z) hq1
  replace hS := hS1
  clear hS1
  obtain ⟨hz2, hB1⟩ := hB1
  have hq := fun (q : Nat) (z : q < (h + 1)) => hq1 q (by omega) (show ¬ (h + 1) ≤ q by omega)
  clear hq1 hz1
  replace hzb : H.size = h + 51 := by omega
  replace hz := hzb
  clear hz2 f_1
  replace f_0 := f_0.kept (hq _ (by omega))
  clear hq
  have f_2 := hB1
  clear hB1
  refine w_putF (C := RX5) (T := TX5) (N := 4) hx hb hts i_X5_init_X5 tyX5 tyX5_ok nmX5 hown hK f_0 hS (show h ≤ h by omega) rfl 0 (by decide) k_X5_init_fieldLink_14 rfl rfl hin2 rfl rfl rfl (Nat.le_of_ble_eq_true rfl) dX5_init_12 (fun H locs hn hq hS9 => ?_)
  replace hz : H.size = h + 51 := hS9.1.trans hzb
  replace hS := hS9
  clear hS9
  replace f_0 : oA G h 5 [.ref (h + 1), .null, .int 0, .null] H := hn
  clear hn
  replace f_2 := f_2.kept (fun j hj => hq _ (by (try dsimp only); omega))
  clear hq
  refine lv_aload_n hx hb dX5_init_15 rfl (lv_at hl 0 rfl) ?_
  refine n_new (C := RX4) (T := TX4) (N := 6) (ci := 4) (fs := [.null, .null, .null, .null, .null, .int 0]) hx hb hts i_X5_init_X4 tyX4 tyX4_ok hown k_X5_init_classLink_11 k_X5_init_ins_X4 k_X5_init_ini_X4 hK rfl (by decide) hS (by first | exact Nat.le_of_ble_eq_true rfl | exact Nat.le_refl _) (by first | exact Nat.le_of_ble_eq_true rfl | exact Nat.le_refl _) dX5_init_16 (h := h + 51) hz (fun H f_3 z1 hq hS1 => ?_)
  replace hg := (hg.of hS).go (A1 := fun _ => False) (by omega) (fun _ z => z.elim) (fun q z _ => hq q (by omega))
  replace hS := hS1
  clear hS1
  replace hzb : H.size = h + 52 := by omega
  replace hz := hzb
  clear z1
  replace f_0 := f_0.kept (hq _ (by omega))
  replace f_2 := f_2.kept (fun j hj => hq _ (by (try dsimp only); omega))
  clear hq
  refine lv_dup hx hb dX5_init_19 rfl ?_
  refine n_call (va_runI (As := []) (rest := [.ref (h + 51), .ref h]) hC (c_X4_init l G (h + 51)) (cwI 0 hts gX5_init_X4_init rfl rfl rfl (hts _ k_X5_init_ii_X4_init) (hts _ k_X5_init_methodLink_13) (hts _ k_X5_init_im_X4_init) rfl kd_X4_init ⟨Nat.le_of_ble_eq_true rfl, Nat.le_of_ble_eq_true rfl⟩) (nP_preS hK hO (show _ ∧ _ from ⟨hz, f_3⟩)) rfl rfl hl.1 rfl (lv_room (Nat.le_of_ble_eq_true rfl)) dX5_init_20 ⟨(by first | exact Nat.le_of_ble_eq_true rfl | exact Nat.le_refl _), (by first | exact Nat.le_of_ble_eq_true rfl | exact Nat.le_refl _)⟩) hS (fun q z => Nat.le_trans (show h ≤ (h + 51) by omega) z) (fun H locs hB1 hz1 hq1 hS1 => ?_)
  replace hg := (hg.of hS).go hz1 (fun q z => Nat.le_trans (show h ≤ (h + 51) by omega) z) hq1
  replace hS := hS1
  clear hS1
  obtain ⟨hz2, hB1⟩ := hB1
  have hq := fun (q : Nat) (z : q < (h + 51)) => hq1 q (by omega) (show ¬ (h + 51) ≤ q by omega)
  clear hq1 hz1
  replace hzb : H.size = h + 101 := by omega
  replace hz := hzb
  clear hz2 f_3
  replace f_0 := f_0.kept (hq _ (by omega))
  replace f_2 := f_2.kept (fun j hj => hq _ (by (try dsimp only); omega))
  clear hq
  have f_4 := hB1
  clear hB1
  refine w_putF (C := RX5) (T := TX5) (N := 4) hx hb hts i_X5_init_X5 tyX5 tyX5_ok nmX5 hown hK f_0 hS (show h ≤ h by omega) rfl 1 (by decide) k_X5_init_fieldLink_18 rfl rfl hin2 rfl rfl rfl (Nat.le_of_ble_eq_true rfl) dX5_init_23 (fun H locs hn hq hS9 => ?_)
  replace hz : H.size = h + 101 := hS9.1.trans hzb
  replace hS := hS9
  clear hS9
  replace f_0 : oA G h 5 [.ref (h + 1), .ref (h + 51), .int 0, .null] H := hn
  clear hn
  replace f_2 := f_2.kept (fun j hj => hq _ (by (try dsimp only); omega))
  replace f_4 := f_4.kept (fun j hj => hq _ (by (try dsimp only); omega))
  clear hq
  refine lv_aload_n hx hb dX5_init_26 rfl (lv_at hl 0 rfl) ?_
  refine n_new (C := RX0) (T := TX0) (N := 2) (ci := 0) (fs := [.null, .int 0]) hx hb hts i_X5_init_X0 tyX0 tyX0_ok hown k_X5_init_classLink_21 k_X5_init_ins_X0 k_X5_init_ini_X0 hK rfl (by decide) hS (by first | exact Nat.le_of_ble_eq_true rfl | exact Nat.le_refl _) (by first | exact Nat.le_of_ble_eq_true rfl | exact Nat.le_refl _) dX5_init_27 (h := h + 101) hz (fun H f_5 z1 hq hS1 => ?_)
  replace hg := (hg.of hS).go (A1 := fun _ => False) (by omega) (fun _ z => z.elim) (fun q z _ => hq q (by omega))
  replace hS := hS1
  clear hS1
  replace hzb : H.size = h + 102 := by omega
  replace hz := hzb
  clear z1
  replace f_0 := f_0.kept (hq _ (by omega))
  replace f_2 := f_2.kept (fun j hj => hq _ (by (try dsimp only); omega))
  replace f_4 := f_4.kept (fun j hj => hq _ (by (try dsimp only); omega))
  clear hq
  refine lv_dup hx hb dX5_init_30 rfl ?_
  refine n_call (va_runIN (As := []) (rest := [.ref (h + 101), .ref h]) hC (c_X0_init l G (h + 101)) ⟨va_cnB 0 hts gX5_init_X0_init_n23 rfl rfl rfl (hK.2 _ (List.mem_of_getElem? (i := 2) rfl)) (hts _ k_X5_init_ii_X0_init) kd_X0_init ⟨Nat.le_of_ble_eq_true rfl, Nat.le_of_ble_eq_true rfl⟩, rfl, (hts _ k_X5_init_im_X0_init)⟩ (nP_preS hK hO (show _ ∧ _ from ⟨hz, f_5⟩)) rfl rfl hl.1 rfl (lv_room (Nat.le_of_ble_eq_true rfl)) dX5_init_31 ⟨(by first | exact Nat.le_of_ble_eq_true rfl | exact Nat.le_refl _), (by first | exact Nat.le_of_ble_eq_true rfl | exact Nat.le_refl _)⟩) hS (fun q z => Nat.le_trans (show h ≤ (h + 101) by omega) z) (fun H locs hB1 hz1 hq1 hS1 => ?_)
  replace hg := (hg.of hS).go hz1 (fun q z => Nat.le_trans (show h ≤ (h + 101) by omega) z) hq1
  replace hS := hS1
  clear hS1
  obtain ⟨hz2, hB1⟩ := hB1
  have hq := fun (q : Nat) (z : q < (h + 101)) => hq1 q (by omega) (show ¬ (h + 101) ≤ q by omega)
  clear hq1 hz1
  replace hzb : H.size = h + 103 := by omega
  replace hz := hzb
  clear hz2 f_5
  replace f_0 := f_0.kept (hq _ (by omega))
  replace f_2 := f_2.kept (fun j hj => hq _ (by (try dsimp only); omega))
  replace f_4 := f_4.kept (fun j hj => hq _ (by (try dsimp only); omega))
  clear hq
  obtain ⟨f_6, f_7⟩ := hB1
  refine w_putF (C := RX5) (T := TX5) (N := 4) hx hb hts i_X5_init_X5 tyX5 tyX5_ok nmX5 hown hK f_0 hS (show h ≤ h by omega) rfl 3 (by decide) k_X5_init_fieldLink_24 rfl rfl hin2 rfl rfl rfl (Nat.le_of_ble_eq_true rfl) dX5_init_34 (fun H locs hn hq hS9 => ?_)
  replace hz : H.size = h + 103 := hS9.1.trans hzb
  replace hS := hS9
  clear hS9
  replace f_0 : oA G h 5 [.ref (h + 1), .ref (h + 51), .int 0, .ref (h + 101)] H := hn
  clear hn
  replace f_2 := f_2.kept (fun j hj => hq _ (by (try dsimp only); omega))
  replace f_4 := f_4.kept (fun j hj => hq _ (by (try dsimp only); omega))
  replace f_6 := f_6.kept (hq _ (by omega))
  replace f_7 := f_7.kept (hq _ (by omega))
  clear hq
  exact n_vret hx hb hr hlocks dX5_init_37 hg hS ⟨hz, (⟨f_0, f_2, f_4, f_6, f_7⟩ : CAt G (adC h) (fun j => h + 1 + j) (fun j => h + 51 + j) wd0 wd0 false 0 (fun _ => 0) H)⟩

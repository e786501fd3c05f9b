abbrev rw0 : RwT := (0, fun _ => 0)
abbrev tp0 : TpT := (0, 0, fun _ => 0)
abbrev lw0 : LawT := (0, 0, 0, 0, (fun _ => 0), rw0, (fun _ => 0), 0)
abbrev wd0 : WT := (rw0, rw0, rw0, tp0, (fun _ => lw0), 0)
theorem LwAt.cong {G : GG} {A B : Nat → Nat} {x : LawT} {H : Heap} (h : LwAt G A x H) (e : ∀ j, A j = B j) : LwAt G B x H := (funext e : A = B) ▸ h
theorem WAt.cong {G : GG} {A B : Nat → Nat} {x : WT} {H : Heap} (h : WAt G A x H) (e : ∀ j, A j = B j) : WAt G B x H := (funext e : A = B) ▸ h
theorem k_X2_init_oi : Cond.instanceMethod objectInit ∈ wsX2_init := by decide +kernel
theorem k_X2_init_oc : Cond.code objectInit ⟨#[0xb1]⟩ 1 none ∈ wsX2_init := by decide +kernel
theorem k_X2_init_methodLink_3 : Cond.methodLink RX2 3 objectInit ∈ wsX2_init := by decide +kernel
theorem i_X2_init_X2 : ∀ w ∈ wsX20, w ∈ wsX2_init := fun _ h => List.mem_cons_of_mem _ (List.mem_append_right _ h)
theorem k_X2_init_fieldLink_9 : Cond.fieldLink RX2 9 "SameWater$Rows" "most" "I" ∈ wsX2_init := by decide +kernel
theorem k_X2_init_fieldLink_15 : Cond.fieldLink RX2 15 "SameWater$Rows" "width" "I" ∈ wsX2_init := by decide +kernel
theorem k_X2_init_arr1 : Cond.arrayClass .int ∈ wsX2_init := by decide +kernel
theorem k_X2_init_fieldLink_18 : Cond.fieldLink RX2 18 "SameWater$Rows" "cells" "[I" ∈ wsX2_init := by decide +kernel
set_option maxHeartbeats 4000000 in
set_option maxRecDepth 100000 in
theorem c_X2_init (l : Launch) (G : GG) (h : Nat) (nm nw : Nat) (w2 : nm ≤ 64) (w3 : nw ≤ 8) : Met l yX2_init wsX2_init { frames := 1, cells := (0 + 1), slots := (0 + (nm * nw)), locals := 20 } (nP G [.ref h, .int (nI nm), .int (nI nw)] (fun H => H.size = h + 1 ∧ oA G h 2 [.int 0, .int 0, .null, .int 0] H)) (nwQ none (fun H => H.size = h + 2 ∧ RwAt G h (h + 1) nm nw rw0 H) (fun q => h ≤ q)) (0 + 1) (0 + (nm * nw)) (fun q => h ≤ q) := by
  refine Met.ofW (cc := cX2_init) (maxL := 3) (ret := none) (by decide) rfl ?_
  intro p e s m args below meth c s₁ Bd hml hv
  obtain ⟨rfl, ⟨hK, hO⟩, hz, f_0⟩ := hv
  have hx := Bd.exec
  have hb := Bd.bytes
  have hr := Bd.returns
  have hin2 : meth.name = "<init>" := (name_of_methodNamed Bd.named Bd.method).1
  have hts := atoms_spec (ws := wsX2_init) Bd.pre
  have hown : s.vm.findClass RX2 = some m.cls := findClass_of_methodNamed Bd.named
  have hlocks := Bd.notSynchronized
  have hC : CallFix p m c cX2_init 3 s _ wsX2_init RX2 := ⟨hx, hb, hml, hown, hts⟩
  have hl := lv_entry ([.ref h, .int (nI nm), .int (nI nw)]) (n := 3) (Nat.le_of_ble_eq_true rfl)
  rw [lg_entry_eq]
  generalize (lg_sl ([.ref h, .int (nI nm), .int (nI nw)]) ++ List.replicate (3 - (lg_sl ([.ref h, .int (nI nm), .int (nI nw)])).length) Slot.unset).toArray = ls at hl ⊢
  have hl : lv_has ls 3 [(0, .ref h), (1, .int (nI nm)), (2, .int (nI nw))] := hl
  have hS : wS (fun q => h ≤ q) s.heap s.heap [] := wS.rf
  have hg : gW (fun q => h ≤ q) s.heap s.heap := gW.rf
  have hzb := hz
  refine lv_aload_n hx hb dX2_init_0 rfl (lv_at hl 0 rfl) ?_
  refine W.objInit hx hb hown (hts _ k_X2_init_methodLink_3) (hts _ k_X2_init_oi) (hts _ k_X2_init_oc) rfl (by rw [hml]; exact hl.1) rfl dX2_init_1 (Nat.le_of_ble_eq_true rfl) (Nat.le_of_ble_eq_true rfl) ?_
  refine lv_aload_n hx hb dX2_init_4 rfl (lv_at hl 0 rfl) ?_
  refine lv_iload_n hx hb dX2_init_5 rfl (lv_at hl 1 rfl) ?_
  refine w_putF (C := RX2) (T := TX2) (N := 4) hx hb hts i_X2_init_X2 tyX2 tyX2_ok nmX2 hown hK f_0 hS (show h ≤ h by omega) rfl 0 (by decide) k_X2_init_fieldLink_9 rfl rfl hin2 rfl rfl rfl (Nat.le_of_ble_eq_true rfl) dX2_init_6 (fun H locs hn hq hS => ?_)
  have hz : H.size = h + 1 := hS.1.trans hzb
  have f_0 : oA G h 2 [.int (nI nm), .int 0, .null, .int 0] H := hn
  refine lv_aload_n hx hb dX2_init_9 rfl (lv_at hl 0 rfl) ?_
  refine lv_iload_n hx hb dX2_init_10 rfl (lv_at hl 2 rfl) ?_
  refine w_putF (C := RX2) (T := TX2) (N := 4) hx hb hts i_X2_init_X2 tyX2 tyX2_ok nmX2 hown hK f_0 hS (show h ≤ h by omega) rfl 1 (by decide) k_X2_init_fieldLink_15 rfl rfl hin2 rfl rfl rfl (Nat.le_of_ble_eq_true rfl) dX2_init_11 (fun H locs hn hq hS => ?_)
  have hz : H.size = h + 1 := hS.1.trans hzb
  have f_0 : oA G h 2 [.int (nI nm), .int (nI nw), .null, .int 0] H := hn
  refine lv_aload_n hx hb dX2_init_14 rfl (lv_at hl 0 rfl) ?_
  refine lv_iload_n hx hb dX2_init_15 rfl (lv_at hl 1 rfl) ?_
  refine lv_iload_n hx hb dX2_init_16 rfl (lv_at hl 2 rfl) ?_
  refine lv_imul hx hb dX2_init_17 ?_
  refine n_newa (G := G) (atype := .int) (k := 1) (N := (nm * nw)) hx hb hts k_X2_init_arr1 hK rfl (fun _ z => z) rfl (pk_mul nm nw) (nmnw_lt w2 w3) (by have := Nat.mul_le_mul w2 w3; show nm * nw * 4 ≤ _; omega) hS (by first | exact Nat.le_of_ble_eq_true rfl | exact Nat.le_refl _) (by first | exact Nat.le_of_ble_eq_true rfl | exact Nat.le_refl _) dX2_init_18 (h := h + 1) hz (fun H f_1 z1 hq hS1 => ?_)
  have hg := (hg.of hS).go (A1 := fun _ => False) (by omega) (fun _ z => z.elim) (fun q z _ => hq q (by omega))
  have hS := hS1
  have hzb : H.size = h + 2 := by omega
  have hz := hzb
  have f_0 := f_0.kept (hq _ (by omega))
  refine w_putF (C := RX2) (T := TX2) (N := 4) hx hb hts i_X2_init_X2 tyX2 tyX2_ok nmX2 hown hK f_0 hS (show h ≤ h by omega) rfl 2 (by decide) k_X2_init_fieldLink_18 rfl rfl hin2 rfl rfl rfl (Nat.le_of_ble_eq_true rfl) dX2_init_20 (fun H locs hn hq hS => ?_)
  have hz : H.size = h + 2 := hS.1.trans hzb
  have f_0 : oA G h 2 [.int (nI nm), .int (nI nw), .ref (h + 1), .int 0] H := hn
  have f_1 := f_1.kept (hq _ (by omega))
  exact n_vret hx hb hr hlocks dX2_init_23 hg hS ⟨hz, ⟨f_0, f_1, Nat.zero_le _, w2, w3⟩⟩

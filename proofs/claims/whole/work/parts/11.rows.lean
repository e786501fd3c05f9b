/-- a RowsT's size and cells -/
abbrev RwT : Type := Nat × (Nat → Int32)
/-- the object of Rows at a, its cells at b: nm rows at most, nw wide -/
def RwAt (G : GG) (a b nm nw : Nat) (x : RwT) (H : Heap) : Prop := oA G a 2 [.int (nI nm), .int (nI nw), .ref b, .int (nI x.1)] H ∧ iA G 1 b (nm * nw) x.2 H ∧ x.1 ≤ nm ∧ nm ≤ 64 ∧ nw ≤ 8
theorem RwAt.kept {G : GG} {a b nm nw : Nat} {x : RwT} {H H1 : Heap} (h : RwAt G a b nm nw x H) (ha : H1[a]? = H[a]?) (hb : H1[b]? = H[b]?) : RwAt G a b nm nw x H1 := ⟨h.1.kept ha, h.2.1.kept hb, h.2.2⟩
theorem rows_in {ns nm nw : Nat} {r c : Int32} (h1 : ¬ r < 0) (h2 : ¬ nI ns ≤ r) (h3 : ¬ c < 0) (h4 : ¬ nI nw ≤ c) (h5 : ns ≤ nm) (h6 : nm ≤ 64) (h7 : nw ≤ 8) : vp_in (r * nI nw + c) (nm * nw) := by
  obtain ⟨i, hi, rfl⟩ := nI_of h1
  obtain ⟨j, hj, rfl⟩ := nI_of h3
  have e1 : i < ns := by
    rcases Nat.lt_or_ge i ns with q | q
    · exact q
    · exact absurd (nI_le q hi) h2
  have e2 : j < nw := by
    rcases Nat.lt_or_ge j nw with q | q
    · exact q
    · exact absurd (nI_le q hj) h4
  rw [pk_mul, nI_add]
  have e3 : (i + 1) * nw ≤ nm * nw := Nat.mul_le_mul_right nw (by omega)
  have e4 : nm * nw ≤ 64 * 8 := Nat.mul_le_mul h6 h7
  rw [Nat.add_mul, Nat.one_mul] at e3
  exact vp_in_nI (by omega) (by omega)
theorem i_X2_has_X2 : ∀ w ∈ wsX20, w ∈ wsX2_has := fun _ h => List.mem_cons_of_mem _ (List.mem_append_right _ h)
theorem k_X2_has_fieldLink_22 : Cond.fieldLink RX2 22 "SameWater$Rows" "size" "I" ∈ wsX2_has := by decide +kernel
def f_has (x : RwT) (r0 : Int32) : Bool := (if r0 < 0 then false else if (nI x.1) ≤ r0 then false else true)
set_option maxHeartbeats 4000000 in
set_option maxRecDepth 100000 in
theorem c_X2_has (l : Launch) (G : GG) (a0 b0 nm nw : Nat) (x : RwT) (r0 : Int32)  : Met l yX2_has wsX2_has { frames := 0, cells := 0, slots := 0, locals := 0 } (roP G [.ref a0, .int r0] (fun H => RwAt G a0 b0 nm nw x H)) (roQ (some (.int (b2i (f_has x r0))))) 0 0 nF := by
  refine Met.ofW (cc := cX2_has) (maxL := 2) (ret := (some .boolean)) (by decide) rfl ?_
  intro p e s m args below meth c s₁ Bd hml hv
  obtain ⟨rfl, hK, hB⟩ := hv
  have hx := Bd.exec
  have hb := Bd.bytes
  have hr := Bd.returns
  have hts := atoms_spec (ws := wsX2_has) Bd.pre
  have hown : s.vm.findClass RX2 = some m.cls := findClass_of_methodNamed Bd.named
  have hlocks := Bd.notSynchronized
  have hC : CallFix p m c cX2_has 2 s _ wsX2_has RX2 := ⟨hx, hb, hml, hown, hts⟩
  have hl := lv_entry ([.ref a0, .int r0]) (n := 2) (Nat.le_of_ble_eq_true rfl)
  rw [lg_entry_eq]
  generalize (lg_sl ([.ref a0, .int r0]) ++ List.replicate (2 - (lg_sl ([.ref a0, .int r0])).length) Slot.unset).toArray = ls at hl ⊢
  have hl : lv_has ls 2 [(0, .ref a0), (1, .int r0)] := hl
  obtain ⟨f_a, f_b, w1, w2, w3⟩ := hB
  refine lv_iload_n hx hb dX2_has_0 rfl (lv_at hl 1 rfl) ?_
  refine join_at (nL := 2) 17 [(0, .ref a0), (1, .int r0)] [.int (b2i (if r0 < 0 then false else if (nI x.1) ≤ r0 then false else true))] (fun ls hl => ?_) (fun J_1 => ?_)
  · exact ro_zret hx hb hr hlocks dX2_has_17 rfl
  · refine lv_if_lt (tgt := 16) hx hb dX2_has_1 (by decide) (fun h_2 => ?_) (fun h_2 => ?_)
    · refine lv_iconst (v := 0) hx hb dX2_has_16 (by decide) ?_
      have hJ := J_1; (try rw [if_pos h_2] at hJ)
      exact hJ ls (lv_sub hl [0, 1] rfl)
    · refine lv_iload_n hx hb dX2_has_4 rfl (lv_at hl 1 rfl) ?_
      refine lv_aload_n hx hb dX2_has_5 rfl (lv_at hl 0 rfl) ?_
      refine r_get (C := RX2) (T := TX2) (N := 4) hx hb hts i_X2_has_X2 hown hK f_a rfl 3 (by decide) k_X2_has_fieldLink_22 rfl rfl dX2_has_6 ?_
      refine lv_icmp_ge (tgt := 16) hx hb dX2_has_9 (by decide) (fun h_3 => ?_) (fun h_3 => ?_)
      · refine lv_iconst (v := 0) hx hb dX2_has_16 (by decide) ?_
        have hJ := J_1; (try rw [if_neg h_2] at hJ); (try rw [if_pos h_3] at hJ)
        exact hJ ls (lv_sub hl [0, 1] rfl)
      · refine lv_iconst (v := 1) hx hb dX2_has_12 (by decide) ?_
        refine lv_goto (tgt := 17) hx hb dX2_has_13 (by decide) ?_
        have hJ := J_1; (try rw [if_neg h_2] at hJ); (try rw [if_neg h_3] at hJ)
        exact hJ ls (lv_sub hl [0, 1] rfl)
theorem i_X2_isFull_X2 : ∀ w ∈ wsX20, w ∈ wsX2_isFull := fun _ h => List.mem_cons_of_mem _ (List.mem_append_right _ h)
theorem k_X2_isFull_fieldLink_22 : Cond.fieldLink RX2 22 "SameWater$Rows" "size" "I" ∈ wsX2_isFull := by decide +kernel
theorem k_X2_isFull_fieldLink_9 : Cond.fieldLink RX2 9 "SameWater$Rows" "most" "I" ∈ wsX2_isFull := by decide +kernel
def f_isFull (nm : Nat) (x : RwT) : Bool := (if (nI x.1) < (nI nm) then false else true)
set_option maxHeartbeats 4000000 in
set_option maxRecDepth 100000 in
theorem c_X2_isFull (l : Launch) (G : GG) (a0 b0 nm nw : Nat) (x : RwT)  : Met l yX2_isFull wsX2_isFull { frames := 0, cells := 0, slots := 0, locals := 0 } (roP G [.ref a0] (fun H => RwAt G a0 b0 nm nw x H)) (roQ (some (.int (b2i (f_isFull nm x))))) 0 0 nF := by
  refine Met.ofW (cc := cX2_isFull) (maxL := 1) (ret := (some .boolean)) (by decide) rfl ?_
  intro p e s m args below meth c s₁ Bd hml hv
  obtain ⟨rfl, hK, hB⟩ := hv
  have hx := Bd.exec
  have hb := Bd.bytes
  have hr := Bd.returns
  have hts := atoms_spec (ws := wsX2_isFull) Bd.pre
  have hown : s.vm.findClass RX2 = some m.cls := findClass_of_methodNamed Bd.named
  have hlocks := Bd.notSynchronized
  have hC : CallFix p m c cX2_isFull 1 s _ wsX2_isFull RX2 := ⟨hx, hb, hml, hown, hts⟩
  have hl := lv_entry ([.ref a0]) (n := 1) (Nat.le_of_ble_eq_true rfl)
  rw [lg_entry_eq]
  generalize (lg_sl ([.ref a0]) ++ List.replicate (1 - (lg_sl ([.ref a0])).length) Slot.unset).toArray = ls at hl ⊢
  have hl : lv_has ls 1 [(0, .ref a0)] := hl
  obtain ⟨f_a, f_b, w1, w2, w3⟩ := hB
  refine lv_aload_n hx hb dX2_isFull_0 rfl (lv_at hl 0 rfl) ?_
  refine r_get (C := RX2) (T := TX2) (N := 4) hx hb hts i_X2_isFull_X2 hown hK f_a rfl 3 (by decide) k_X2_isFull_fieldLink_22 rfl rfl dX2_isFull_1 ?_
  refine lv_aload_n hx hb dX2_isFull_4 rfl (lv_at hl 0 rfl) ?_
  refine r_get (C := RX2) (T := TX2) (N := 4) hx hb hts i_X2_isFull_X2 hown hK f_a rfl 0 (by decide) k_X2_isFull_fieldLink_9 rfl rfl dX2_isFull_5 ?_
  refine join_at (nL := 1) 16 [(0, .ref a0)] [.int (b2i (if (nI x.1) < (nI nm) then false else true))] (fun ls hl => ?_) (fun J_1 => ?_)
  · exact ro_zret hx hb hr hlocks dX2_isFull_16 rfl
  · refine lv_icmp_lt (tgt := 15) hx hb dX2_isFull_8 (by decide) (fun h_2 => ?_) (fun h_2 => ?_)
    · refine lv_iconst (v := 0) hx hb dX2_isFull_15 (by decide) ?_
      have hJ := J_1; (try rw [if_pos h_2] at hJ)
      exact hJ ls (lv_sub hl [0] rfl)
    · refine lv_iconst (v := 1) hx hb dX2_isFull_11 (by decide) ?_
      refine lv_goto (tgt := 16) hx hb dX2_isFull_12 (by decide) ?_
      have hJ := J_1; (try rw [if_neg h_2] at hJ)
      exact hJ ls (lv_sub hl [0] rfl)
theorem i_X2_at_X2 : ∀ w ∈ wsX20, w ∈ wsX2_at := fun _ h => List.mem_cons_of_mem _ (List.mem_append_right _ h)
theorem k_X2_at_fieldLink_22 : Cond.fieldLink RX2 22 "SameWater$Rows" "size" "I" ∈ wsX2_at := by decide +kernel
theorem k_X2_at_fieldLink_15 : Cond.fieldLink RX2 15 "SameWater$Rows" "width" "I" ∈ wsX2_at := by decide +kernel
theorem k_X2_at_fieldLink_18 : Cond.fieldLink RX2 18 "SameWater$Rows" "cells" "[I" ∈ wsX2_at := by decide +kernel
def f_at (nw : Nat) (x : RwT) (r0 c0 : Int32) : Int32 := if r0 < 0 then 0 else if (nI x.1) ≤ r0 then 0 else if c0 < 0 then 0 else if (nI nw) ≤ c0 then 0 else x.2 ((r0 * (nI nw)) + c0).toNatClampNeg
set_option maxHeartbeats 4000000 in
set_option maxRecDepth 100000 in
theorem c_X2_at (l : Launch) (G : GG) (a0 b0 nm nw : Nat) (x : RwT) (r0 c0 : Int32)  : Met l yX2_at wsX2_at { frames := 0, cells := 0, slots := 0, locals := 0 } (roP G [.ref a0, .int r0, .int c0] (fun H => RwAt G a0 b0 nm nw x H)) (roQ (some (.int (f_at nw x r0 c0)))) 0 0 nF := by
  refine Met.ofW (cc := cX2_at) (maxL := 3) (ret := (some .int)) (by decide) rfl ?_
  intro p e s m args below meth c s₁ Bd hml hv
  obtain ⟨rfl, hK, hB⟩ := hv
  have hx := Bd.exec
  have hb := Bd.bytes
  have hr := Bd.returns
  have hts := atoms_spec (ws := wsX2_at) Bd.pre
  have hown : s.vm.findClass RX2 = some m.cls := findClass_of_methodNamed Bd.named
  have hlocks := Bd.notSynchronized
  have hC : CallFix p m c cX2_at 3 s _ wsX2_at RX2 := ⟨hx, hb, hml, hown, hts⟩
  have hl := lv_entry ([.ref a0, .int r0, .int c0]) (n := 3) (Nat.le_of_ble_eq_true rfl)
  rw [lg_entry_eq]
  generalize (lg_sl ([.ref a0, .int r0, .int c0]) ++ List.replicate (3 - (lg_sl ([.ref a0, .int r0, .int c0])).length) Slot.unset).toArray = ls at hl ⊢
  have hl : lv_has ls 3 [(0, .ref a0), (1, .int r0), (2, .int c0)] := hl
  obtain ⟨f_a, f_b, w1, w2, w3⟩ := hB
  refine lv_iload_n hx hb dX2_at_0 rfl (lv_at hl 1 rfl) ?_
  refine join_at (nL := 3) 41 [(0, .ref a0), (1, .int r0), (2, .int c0)] [.int (if r0 < 0 then 0 else if (nI x.1) ≤ r0 then 0 else if c0 < 0 then 0 else if (nI nw) ≤ c0 then 0 else x.2 ((r0 * (nI nw)) + c0).toNatClampNeg)] (fun ls hl => ?_) (fun J_1 => ?_)
  · exact ro_iret hx hb hr hlocks dX2_at_41 rfl
  · refine lv_if_lt (tgt := 40) hx hb dX2_at_1 (by decide) (fun h_2 => ?_) (fun h_2 => ?_)
    · refine lv_iconst (v := 0) hx hb dX2_at_40 (by decide) ?_
      have hJ := J_1; (try rw [if_pos h_2] at hJ)
      exact hJ ls (lv_sub hl [0, 1, 2] rfl)
    · refine lv_iload_n hx hb dX2_at_4 rfl (lv_at hl 1 rfl) ?_
      refine lv_aload_n hx hb dX2_at_5 rfl (lv_at hl 0 rfl) ?_
      refine r_get (C := RX2) (T := TX2) (N := 4) hx hb hts i_X2_at_X2 hown hK f_a rfl 3 (by decide) k_X2_at_fieldLink_22 rfl rfl dX2_at_6 ?_
      refine lv_icmp_ge (tgt := 40) hx hb dX2_at_9 (by decide) (fun h_3 => ?_) (fun h_3 => ?_)
      · refine lv_iconst (v := 0) hx hb dX2_at_40 (by decide) ?_
        have hJ := J_1; (try rw [if_neg h_2] at hJ); (try rw [if_pos h_3] at hJ)
        exact hJ ls (lv_sub hl [0, 1, 2] rfl)
      · refine lv_iload_n hx hb dX2_at_12 rfl (lv_at hl 2 rfl) ?_
        refine lv_if_lt (tgt := 40) hx hb dX2_at_13 (by decide) (fun h_4 => ?_) (fun h_4 => ?_)
        · refine lv_iconst (v := 0) hx hb dX2_at_40 (by decide) ?_
          have hJ := J_1; (try rw [if_neg h_2] at hJ); (try rw [if_neg h_3] at hJ); (try rw [if_pos h_4] at hJ)
          exact hJ ls (lv_sub hl [0, 1, 2] rfl)
        · refine lv_iload_n hx hb dX2_at_16 rfl (lv_at hl 2 rfl) ?_
          refine lv_aload_n hx hb dX2_at_17 rfl (lv_at hl 0 rfl) ?_
          refine r_get (C := RX2) (T := TX2) (N := 4) hx hb hts i_X2_at_X2 hown hK f_a rfl 1 (by decide) k_X2_at_fieldLink_15 rfl rfl dX2_at_18 ?_
          refine lv_icmp_ge (tgt := 40) hx hb dX2_at_21 (by decide) (fun h_5 => ?_) (fun h_5 => ?_)
          · refine lv_iconst (v := 0) hx hb dX2_at_40 (by decide) ?_
            have hJ := J_1; (try rw [if_neg h_2] at hJ); (try rw [if_neg h_3] at hJ); (try rw [if_neg h_4] at hJ); (try rw [if_pos h_5] at hJ)
            exact hJ ls (lv_sub hl [0, 1, 2] rfl)
          · refine lv_aload_n hx hb dX2_at_24 rfl (lv_at hl 0 rfl) ?_
            refine r_get (C := RX2) (T := TX2) (N := 4) hx hb hts i_X2_at_X2 hown hK f_a rfl 2 (by decide) k_X2_at_fieldLink_18 rfl rfl dX2_at_25 ?_
            refine lv_iload_n hx hb dX2_at_28 rfl (lv_at hl 1 rfl) ?_
            refine lv_aload_n hx hb dX2_at_29 rfl (lv_at hl 0 rfl) ?_
            refine r_get (C := RX2) (T := TX2) (N := 4) hx hb hts i_X2_at_X2 hown hK f_a rfl 1 (by decide) k_X2_at_fieldLink_15 rfl rfl dX2_at_30 ?_
            refine lv_imul hx hb dX2_at_33 ?_
            refine lv_iload_n hx hb dX2_at_34 rfl (lv_at hl 2 rfl) ?_
            refine lv_iadd hx hb dX2_at_35 ?_
            refine r_iald hx hb hK f_b (rows_in h_2 h_3 h_4 h_5 w1 w2 w3) dX2_at_36 ?_
            refine lv_goto (tgt := 41) hx hb dX2_at_37 (by decide) ?_
            have hJ := J_1; (try rw [if_neg h_2] at hJ); (try rw [if_neg h_3] at hJ); (try rw [if_neg h_4] at hJ); (try rw [if_neg h_5] at hJ)
            exact hJ ls (lv_sub hl [0, 1, 2] rfl)
def g_put (nw : Nat) (x : RwT) (r0 c0 v0 : Int32) : RwT := if r0 < 0 then x else if nI x.1 ≤ r0 then x else if c0 < 0 then x else if nI nw ≤ c0 then x else (x.1, upd x.2 (r0 * nI nw + c0).toNatClampNeg v0)
theorem i_X2_put_X2 : ∀ w ∈ wsX20, w ∈ wsX2_put := fun _ h => List.mem_cons_of_mem _ (List.mem_append_right _ h)
theorem k_X2_put_fieldLink_22 : Cond.fieldLink RX2 22 "SameWater$Rows" "size" "I" ∈ wsX2_put := by decide +kernel
theorem k_X2_put_fieldLink_15 : Cond.fieldLink RX2 15 "SameWater$Rows" "width" "I" ∈ wsX2_put := by decide +kernel
theorem k_X2_put_fieldLink_18 : Cond.fieldLink RX2 18 "SameWater$Rows" "cells" "[I" ∈ wsX2_put := by decide +kernel
set_option maxHeartbeats 4000000 in
set_option maxRecDepth 100000 in
theorem c_X2_put (l : Launch) (G : GG) (a0 b0 nm nw : Nat) (x : RwT) (r0 c0 v0 : Int32) (hne : a0 ≠ b0) : Met l yX2_put wsX2_put { frames := 0, cells := 0, slots := 0, locals := 0 } (roP G [.ref a0, .int r0, .int c0, .int v0] (fun H => RwAt G a0 b0 nm nw x H)) (wrQ none (fun H => RwAt G a0 b0 nm nw (g_put nw x r0 c0 v0) H) (fun q => q = b0)) 0 0 (fun q => q = b0) := by
  refine Met.ofW (cc := cX2_put) (maxL := 4) (ret := none) (by decide) rfl ?_
  intro p e s m args below meth c s₁ Bd hml hv
  obtain ⟨rfl, hK, hB⟩ := hv
  have hx := Bd.exec
  have hb := Bd.bytes
  have hr := Bd.returns
  have hts := atoms_spec (ws := wsX2_put) Bd.pre
  have hown : s.vm.findClass RX2 = some m.cls := findClass_of_methodNamed Bd.named
  have hlocks := Bd.notSynchronized
  have hC : CallFix p m c cX2_put 4 s _ wsX2_put RX2 := ⟨hx, hb, hml, hown, hts⟩
  have hl := lv_entry ([.ref a0, .int r0, .int c0, .int v0]) (n := 4) (Nat.le_of_ble_eq_true rfl)
  rw [lg_entry_eq]
  generalize (lg_sl ([.ref a0, .int r0, .int c0, .int v0]) ++ List.replicate (4 - (lg_sl ([.ref a0, .int r0, .int c0, .int v0])).length) Slot.unset).toArray = ls at hl ⊢
  have hl : lv_has ls 4 [(0, .ref a0), (1, .int r0), (2, .int c0), (3, .int v0)] := hl
  have hS : wS (fun q => q = b0) s.heap s.heap [] := wS.rf
  obtain ⟨f_a, f_b, w1, w2, w3⟩ := hB
  refine lv_iload_n hx hb dX2_put_0 rfl (lv_at hl 1 rfl) ?_
  refine lv_if_lt (tgt := 38) hx hb dX2_put_1 (by decide) (fun h_1 => ?_) (fun h_1 => ?_)
  · exact wr_vret hx hb hr hlocks dX2_put_38 hS (by (try unfold g_put); (try rw [if_pos h_1]); exact ⟨f_a, f_b, w1, w2, w3⟩)
  · refine lv_iload_n hx hb dX2_put_4 rfl (lv_at hl 1 rfl) ?_
    refine lv_aload_n hx hb dX2_put_5 rfl (lv_at hl 0 rfl) ?_
    refine r_get (C := RX2) (T := TX2) (N := 4) hx hb hts i_X2_put_X2 hown hK f_a rfl 3 (by decide) k_X2_put_fieldLink_22 rfl rfl dX2_put_6 ?_
    refine lv_icmp_ge (tgt := 38) hx hb dX2_put_9 (by decide) (fun h_2 => ?_) (fun h_2 => ?_)
    · exact wr_vret hx hb hr hlocks dX2_put_38 hS (by (try unfold g_put); (try rw [if_neg h_1]); (try rw [if_pos h_2]); exact ⟨f_a, f_b, w1, w2, w3⟩)
    · refine lv_iload_n hx hb dX2_put_12 rfl (lv_at hl 2 rfl) ?_
      refine lv_if_lt (tgt := 38) hx hb dX2_put_13 (by decide) (fun h_3 => ?_) (fun h_3 => ?_)
      · exact wr_vret hx hb hr hlocks dX2_put_38 hS (by (try unfold g_put); (try rw [if_neg h_1]); (try rw [if_neg h_2]); (try rw [if_pos h_3]); exact ⟨f_a, f_b, w1, w2, w3⟩)
      · refine lv_iload_n hx hb dX2_put_16 rfl (lv_at hl 2 rfl) ?_
        refine lv_aload_n hx hb dX2_put_17 rfl (lv_at hl 0 rfl) ?_
        refine r_get (C := RX2) (T := TX2) (N := 4) hx hb hts i_X2_put_X2 hown hK f_a rfl 1 (by decide) k_X2_put_fieldLink_15 rfl rfl dX2_put_18 ?_
        refine lv_icmp_ge (tgt := 38) hx hb dX2_put_21 (by decide) (fun h_4 => ?_) (fun h_4 => ?_)
        · exact wr_vret hx hb hr hlocks dX2_put_38 hS (by (try unfold g_put); (try rw [if_neg h_1]); (try rw [if_neg h_2]); (try rw [if_neg h_3]); (try rw [if_pos h_4]); exact ⟨f_a, f_b, w1, w2, w3⟩)
        · refine lv_aload_n hx hb dX2_put_24 rfl (lv_at hl 0 rfl) ?_
          refine r_get (C := RX2) (T := TX2) (N := 4) hx hb hts i_X2_put_X2 hown hK f_a rfl 2 (by decide) k_X2_put_fieldLink_18 rfl rfl dX2_put_25 ?_
          refine lv_iload_n hx hb dX2_put_28 rfl (lv_at hl 1 rfl) ?_
          refine lv_aload_n hx hb dX2_put_29 rfl (lv_at hl 0 rfl) ?_
          refine r_get (C := RX2) (T := TX2) (N := 4) hx hb hts i_X2_put_X2 hown hK f_a rfl 1 (by decide) k_X2_put_fieldLink_15 rfl rfl dX2_put_30 ?_
          refine lv_imul hx hb dX2_put_33 ?_
          refine lv_iload_n hx hb dX2_put_34 rfl (lv_at hl 2 rfl) ?_
          refine lv_iadd hx hb dX2_put_35 ?_
          refine lv_iload_n hx hb dX2_put_36 rfl (lv_at hl 3 rfl) ?_
          refine w_iast hx hb hK f_b hS rfl (rows_in h_1 h_2 h_3 h_4 w1 w2 w3) dX2_put_37 (fun H locs hn hq hS => ?_)
          have f_b : iA G 1 b0 (nm * nw) (upd x.2 ((r0 * (nI nw)) + c0).toNatClampNeg v0) H := hn
          have f_a := f_a.kept (hq _ hne)
          exact wr_vret hx hb hr hlocks dX2_put_38 hS (by (try unfold g_put); (try rw [if_neg h_1]); (try rw [if_neg h_2]); (try rw [if_neg h_3]); (try rw [if_neg h_4]); exact ⟨f_a, f_b, w1, w2, w3⟩)
def g_add (nm : Nat) (x : RwT) : RwT := if nI x.1 < nI nm then (x.1 + 1, x.2) else x
def f_add (nm : Nat) (x : RwT) : Int32 := if nI x.1 < nI nm then nI x.1 else -4
theorem add_lt {ns nm : Nat} (h : nI ns < nI nm) (h1 : ns ≤ nm) (h2 : nm ≤ 64) : ns + 1 ≤ nm := by
  rcases Nat.lt_or_ge ns nm with q | q
  · exact q
  · exact absurd h (nI_nlt q (by omega))
theorem add_back (n : Nat) : nI n + 1 - 1 = nI n := by rw [← nI_succ]; exact nI_pred n
theorem i_X2_add_X2 : ∀ w ∈ wsX20, w ∈ wsX2_add := fun _ h => List.mem_cons_of_mem _ (List.mem_append_right _ h)
theorem k_X2_add_fieldLink_22 : Cond.fieldLink RX2 22 "SameWater$Rows" "size" "I" ∈ wsX2_add := by decide +kernel
theorem k_X2_add_fieldLink_9 : Cond.fieldLink RX2 9 "SameWater$Rows" "most" "I" ∈ wsX2_add := by decide +kernel
set_option maxHeartbeats 4000000 in
set_option maxRecDepth 100000 in
theorem c_X2_add (l : Launch) (G : GG) (a0 b0 nm nw : Nat) (x : RwT) (hne : a0 ≠ b0) : Met l yX2_add wsX2_add { frames := 0, cells := 0, slots := 0, locals := 0 } (roP G [.ref a0] (fun H => RwAt G a0 b0 nm nw x H)) (wrQ (some (.int (f_add nm x))) (fun H => RwAt G a0 b0 nm nw (g_add nm x) H) (fun q => q = a0)) 0 0 (fun q => q = a0) := by
  refine Met.ofW (cc := cX2_add) (maxL := 1) (ret := (some .int)) (by decide) rfl ?_
  intro p e s m args below meth c s₁ Bd hml hv
  obtain ⟨rfl, hK, hB⟩ := hv
  have hx := Bd.exec
  have hb := Bd.bytes
  have hr := Bd.returns
  have hts := atoms_spec (ws := wsX2_add) Bd.pre
  have hown : s.vm.findClass RX2 = some m.cls := findClass_of_methodNamed Bd.named
  have hlocks := Bd.notSynchronized
  have hC : CallFix p m c cX2_add 1 s _ wsX2_add RX2 := ⟨hx, hb, hml, hown, hts⟩
  have hl := lv_entry ([.ref a0]) (n := 1) (Nat.le_of_ble_eq_true rfl)
  rw [lg_entry_eq]
  generalize (lg_sl ([.ref a0]) ++ List.replicate (1 - (lg_sl ([.ref a0])).length) Slot.unset).toArray = ls at hl ⊢
  have hl : lv_has ls 1 [(0, .ref a0)] := hl
  have hS : wS (fun q => q = a0) s.heap s.heap [] := wS.rf
  obtain ⟨f_a, f_b, w1, w2, w3⟩ := hB
  refine lv_aload_n hx hb dX2_add_0 rfl (lv_at hl 0 rfl) ?_
  refine r_get (C := RX2) (T := TX2) (N := 4) hx hb hts i_X2_add_X2 hown hK f_a rfl 3 (by decide) k_X2_add_fieldLink_22 rfl rfl dX2_add_1 ?_
  refine lv_aload_n hx hb dX2_add_4 rfl (lv_at hl 0 rfl) ?_
  refine r_get (C := RX2) (T := TX2) (N := 4) hx hb hts i_X2_add_X2 hown hK f_a rfl 0 (by decide) k_X2_add_fieldLink_9 rfl rfl dX2_add_5 ?_
  refine lv_icmp_lt (tgt := 14) hx hb dX2_add_8 (by decide) (fun h_1 => ?_) (fun h_1 => ?_)
  · refine lv_aload_n hx hb dX2_add_14 rfl (lv_at hl 0 rfl) ?_
    refine lv_dup hx hb dX2_add_15 rfl ?_
    refine r_get (C := RX2) (T := TX2) (N := 4) hx hb hts i_X2_add_X2 hown hK f_a rfl 3 (by decide) k_X2_add_fieldLink_22 rfl rfl dX2_add_16 ?_
    refine lv_iconst (v := 1) hx hb dX2_add_19 (by decide) ?_
    refine lv_iadd hx hb dX2_add_20 ?_
    refine w_put (C := RX2) (T := TX2) (N := 4) hx hb hts i_X2_add_X2 tyX2 tyX2_ok nmX2 hown hK f_a hS rfl rfl 3 (by decide) k_X2_add_fieldLink_22 rfl rfl rfl rfl (Nat.le_of_ble_eq_true rfl) dX2_add_21 (fun H locs hn hq hS => ?_)
    have f_a : oA G a0 2 [.int (nI nm), .int (nI nw), .ref b0, .int ((nI x.1) + 1)] H := hn
    have f_b := f_b.kept (hq _ hne.symm)
    refine lv_aload_n hx hb dX2_add_24 rfl (lv_at hl 0 rfl) ?_
    refine r_get (C := RX2) (T := TX2) (N := 4) hx hb hts i_X2_add_X2 hown hK f_a rfl 3 (by decide) k_X2_add_fieldLink_22 rfl rfl dX2_add_25 ?_
    refine lv_iconst (v := 1) hx hb dX2_add_28 (by decide) ?_
    refine lv_isub hx hb dX2_add_29 ?_
    exact wr_iret hx hb hr hlocks dX2_add_30 hS (by (try unfold g_add); (try rw [if_pos h_1]); exact ⟨by rw [show nI (x.1 + 1, x.2).1 = nI x.1 + 1 from nI_succ x.1]; exact f_a, f_b, add_lt h_1 w1 w2, w2, w3⟩) (by (try unfold f_add); (try rw [if_pos h_1]); first | done | exact add_back _)
  · refine lv_bipush (v := (-4)) hx hb dX2_add_11 (by decide +kernel) ?_
    exact wr_iret hx hb hr hlocks dX2_add_13 hS (by (try unfold g_add); (try rw [if_neg h_1]); exact ⟨f_a, f_b, w1, w2, w3⟩) (by (try unfold f_add); (try rw [if_neg h_1]); first | done | exact add_back _)

theorem i_X5_image_X5 : ∀ w ∈ wsX50, w ∈ wsX5_image := fun _ h => List.mem_cons_of_mem _ (List.mem_append_left _ (List.mem_append_left _ (List.mem_append_left _ (List.mem_append_left _ (List.mem_append_right _ h)))))
theorem k_X5_image_fieldLink_18 : Cond.fieldLink RX5 18 "SameWater" "taken" "LSameWater$World;" ∈ wsX5_image := by decide +kernel
theorem k_X5_image_fieldLink_14 : Cond.fieldLink RX5 14 "SameWater" "now" "LSameWater$World;" ∈ wsX5_image := by decide +kernel
theorem k_X5_image_fieldLink_216 : Cond.fieldLink RX5 216 "SameWater" "isTaken" "Z" ∈ wsX5_image := by decide +kernel
theorem i_X5_image_X4 : ∀ w ∈ wsX40, w ∈ wsX5_image := fun _ h => List.mem_cons_of_mem _ (List.mem_append_left _ (List.mem_append_left _ (List.mem_append_left _ (List.mem_append_right _ h))))
theorem k_X5_image_fieldLink_28 : Cond.fieldLink RX5 28 "SameWater$World" "children" "LSameWater$Rows;" ∈ wsX5_image := by decide +kernel
theorem i_X5_image_X2 : ∀ w ∈ wsX20, w ∈ wsX5_image := fun _ h => List.mem_cons_of_mem _ (List.mem_append_left _ (List.mem_append_left _ (List.mem_append_right _ h)))
theorem k_X5_image_fieldLink_54 : Cond.fieldLink RX5 54 "SameWater$Rows" "size" "I" ∈ wsX5_image := by decide +kernel
theorem kd_X4_copy : yX4_copy.cls = RX4 ∧ yX4_copy.cls ≠ "java/lang/invoke/MethodHandle" ∧ yX4_copy.cls ≠ "java/lang/invoke/VarHandle" ∧ (parseMethodDescriptor yX4_copy.desc).map (fun d => d.parameters.length) = some 1 := by decide +kernel
def s_image (wd wt : WT) (tk : Bool) : Int32 × WT × Bool := (nI (wCh wd).1, (u_copy wt wd), true)
set_option maxHeartbeats 4000000 in
set_option maxRecDepth 100000 in
theorem c_X5_image (l : Launch) (G : GG) (AD ad td : Nat → Nat) (wd wt : WT) (tk : Bool) (rn : Int32) (bo : Nat → Int32) (hN : cN AD ad td) (hby : byF (wTp wd).2.2) : Met l yX5_image wsX5_image { frames := 4, cells := 0, slots := 0, locals := 124 } (roP G [.ref (AD 0)] (fun H => CAt G AD ad td wd wt tk rn bo H)) (wrQ (some (.int ((s_image wd wt tk).1))) (fun H => CAt G AD ad td wd ((s_image wd wt tk).2.1) ((s_image wd wt tk).2.2) rn bo H) (cA AD ad td)) 0 0 (cA AD ad td) := by
  refine Met.ofW (cc := cX5_image) (maxL := 1) (ret := (some .int)) (by decide) rfl ?_
  intro p e s m args below meth c s₁ Bd hml hv
  obtain ⟨rfl, hK, hB⟩ := hv
  have hx := Bd.exec
  have hb := Bd.bytes
  have hr := Bd.returns
  have hts := atoms_spec (ws := wsX5_image) Bd.pre
  have hown : s.vm.findClass RX5 = some m.cls := findClass_of_methodNamed Bd.named
  have hlocks := Bd.notSynchronized
  have hC : CallFix p m c cX5_image 1 s _ wsX5_image RX5 := ⟨hx, hb, hml, hown, hts⟩
  have hl := lv_entry ([.ref (AD 0)]) (n := 1) (Nat.le_of_ble_eq_true rfl)
  rw [lg_entry_eq]
  generalize (lg_sl ([.ref (AD 0)]) ++ List.replicate (1 - (lg_sl ([.ref (AD 0)])).length) Slot.unset).toArray = ls at hl ⊢
  have hl : lv_has ls 1 [(0, .ref (AD 0))] := hl
  have hS : wS (cA AD ad td) s.heap s.heap [] := wS.rf
  have f_s := hB
  have hZ := trivial
  refine lv_aload_n hx hb dX5_image_0 rfl (lv_at hl 0 rfl) ?_
  refine r_get (C := RX5) (T := TX5) (N := 4) hx hb hts i_X5_image_X5 hown hK f_s.1 rfl 1 (by decide) k_X5_image_fieldLink_18 rfl rfl dX5_image_1 ?_
  refine lv_aload_n hx hb dX5_image_4 rfl (lv_at hl 0 rfl) ?_
  refine r_get (C := RX5) (T := TX5) (N := 4) hx hb hts i_X5_image_X5 hown hK f_s.1 rfl 0 (by decide) k_X5_image_fieldLink_14 rfl rfl dX5_image_5 ?_
  refine wr_callv (va_runV (As := [.ref (ad 0)]) (rest := []) hC (c_X4_copy l G td ad wt wd hN.2.1 (fun i j hi hj => hN.2.2.2.1 j i hj hi) hby) (cwV 1 hts gX5_image_X4_copy rfl rfl rfl kd_X4_copy ⟨Nat.le_of_ble_eq_true rfl, Nat.le_of_ble_eq_true rfl⟩) (ro_preV hK f_s.2.2.1.1 rfl ⟨f_s.2.2.1, f_s.2.1⟩) rfl rfl hl.1 rfl (lv_room (Nat.le_of_ble_eq_true rfl)) dX5_image_8 ⟨Nat.zero_le _, Nat.zero_le _⟩) hS (fun q h => Or.inr (Or.inr h)) (fun H locs f_n hq hS => ?_)
  have f_s := (CAt.setTaken f_s hN f_n.1 hq : CAt G AD ad td wd (u_copy wt wd) tk rn bo H)
  refine lv_aload_n hx hb dX5_image_11 rfl (lv_at hl 0 rfl) ?_
  refine lv_iconst (v := 1) hx hb dX5_image_12 (by decide) ?_
  refine w_put (C := RX5) (T := TX5) (N := 4) hx hb hts i_X5_image_X5 tyX5 tyX5_ok nmX5 hown hK f_s.1 hS (Or.inl ⟨0, by decide, rfl⟩) rfl 2 (by decide) k_X5_image_fieldLink_216 rfl rfl rfl rfl (Nat.le_of_ble_eq_true rfl) dX5_image_13 (fun H locs hn hq hS => ?_)
  have f_s := (CAt.rest f_s hN hn (f_s.2.2.2.1.kept (hq _ (hN.2.2.1 1 0 (by decide) (by decide) (by decide)))) (f_s.2.2.2.2.kept (hq _ (hN.2.2.1 2 0 (by decide) (by decide) (by decide)))) (fun q h => hq q (fun e => h ⟨0, by decide, e⟩)) : CAt G AD ad td wd (u_copy wt wd) true rn bo H)
  refine lv_aload_n hx hb dX5_image_16 rfl (lv_at hl 0 rfl) ?_
  refine r_get (C := RX5) (T := TX5) (N := 4) hx hb hts i_X5_image_X5 hown hK f_s.1 rfl 0 (by decide) k_X5_image_fieldLink_14 rfl rfl dX5_image_17 ?_
  refine r_get (C := RX4) (T := TX4) (N := 6) hx hb hts i_X5_image_X4 hown hK f_s.2.1.1 rfl 0 (by decide) k_X5_image_fieldLink_28 rfl rfl dX5_image_20 ?_
  refine r_get (C := RX2) (T := TX2) (N := 4) hx hb hts i_X5_image_X2 hown hK f_s.2.1.2.1.1 rfl 3 (by decide) k_X5_image_fieldLink_54 rfl rfl dX5_image_23 ?_
  have hE9 : s_image wd wt tk = (nI (wCh wd).1, (u_copy wt wd), true) := (by (try unfold s_image); first | done | rfl)
  exact wr_iret hx hb hr hlocks dX5_image_26 hS (by rw [hE9]; exact f_s) (by rw [hE9]; first | done | rfl)
theorem c2_X5_image (l : Launch) (G : GG) (AD ad td : Nat → Nat) (wd wt : WT) (tk : Bool) (rn : Int32) (bo : Nat → Int32) (hN : cN AD ad td) (hby : byF (wTp wd).2.2) (r9 : Int32) (wt9 : WT) (tk9 : Bool) (hy9 : s_image wd wt tk = (r9, wt9, tk9)) : Met l yX5_image wsX5_image { frames := 4, cells := 0, slots := 0, locals := 124 } (roP G [.ref (AD 0)] (fun H => CAt G AD ad td wd wt tk rn bo H)) (wrQ (some (.int r9)) (fun H => CAt G AD ad td wd wt9 tk9 rn bo H) (cA AD ad td)) 0 0 (cA AD ad td) := by
  have h9 := c_X5_image l G AD ad td wd wt tk rn bo hN hby
  rw [hy9] at h9
  exact h9
theorem i_X5_undo_X5 : ∀ w ∈ wsX50, w ∈ wsX5_undo := fun _ h => List.mem_cons_of_mem _ (List.mem_append_left _ (List.mem_append_left _ (List.mem_append_left _ (List.mem_append_left _ (List.mem_append_right _ h)))))
theorem k_X5_undo_fieldLink_216 : Cond.fieldLink RX5 216 "SameWater" "isTaken" "Z" ∈ wsX5_undo := by decide +kernel
theorem k_X5_undo_fieldLink_14 : Cond.fieldLink RX5 14 "SameWater" "now" "LSameWater$World;" ∈ wsX5_undo := by decide +kernel
theorem k_X5_undo_fieldLink_18 : Cond.fieldLink RX5 18 "SameWater" "taken" "LSameWater$World;" ∈ wsX5_undo := by decide +kernel
theorem i_X5_undo_X4 : ∀ w ∈ wsX40, w ∈ wsX5_undo := fun _ h => List.mem_cons_of_mem _ (List.mem_append_left _ (List.mem_append_left _ (List.mem_append_left _ (List.mem_append_right _ h))))
theorem k_X5_undo_fieldLink_28 : Cond.fieldLink RX5 28 "SameWater$World" "children" "LSameWater$Rows;" ∈ wsX5_undo := by decide +kernel
theorem i_X5_undo_X2 : ∀ w ∈ wsX20, w ∈ wsX5_undo := fun _ h => List.mem_cons_of_mem _ (List.mem_append_left _ (List.mem_append_left _ (List.mem_append_right _ h)))
theorem k_X5_undo_fieldLink_54 : Cond.fieldLink RX5 54 "SameWater$Rows" "size" "I" ∈ wsX5_undo := by decide +kernel
def s_undo (wd wt : WT) (tk : Bool) : Int32 × WT := if tk = true then (nI (wCh (u_copy wd wt)).1, (u_copy wd wt)) else ((-3), wd)
set_option maxHeartbeats 4000000 in
set_option maxRecDepth 100000 in
theorem c_X5_undo (l : Launch) (G : GG) (AD ad td : Nat → Nat) (wd wt : WT) (tk : Bool) (rn : Int32) (bo : Nat → Int32) (hN : cN AD ad td) (hby : byF (wTp wt).2.2) : Met l yX5_undo wsX5_undo { frames := 4, cells := 0, slots := 0, locals := 124 } (roP G [.ref (AD 0)] (fun H => CAt G AD ad td wd wt tk rn bo H)) (wrQ (some (.int ((s_undo wd wt tk).1))) (fun H => CAt G AD ad td ((s_undo wd wt tk).2) wt tk rn bo H) (cA AD ad td)) 0 0 (cA AD ad td) := by
  refine Met.ofW (cc := cX5_undo) (maxL := 1) (ret := (some .int)) (by decide) rfl ?_
  intro p e s m args below meth c s₁ Bd hml hv
  obtain ⟨rfl, hK, hB⟩ := hv
  have hx := Bd.exec
  have hb := Bd.bytes
  have hr := Bd.returns
  have hts := atoms_spec (ws := wsX5_undo) Bd.pre
  have hown : s.vm.findClass RX5 = some m.cls := findClass_of_methodNamed Bd.named
  have hlocks := Bd.notSynchronized
  have hC : CallFix p m c cX5_undo 1 s _ wsX5_undo RX5 := ⟨hx, hb, hml, hown, hts⟩
  have hl := lv_entry ([.ref (AD 0)]) (n := 1) (Nat.le_of_ble_eq_true rfl)
  rw [lg_entry_eq]
  generalize (lg_sl ([.ref (AD 0)]) ++ List.replicate (1 - (lg_sl ([.ref (AD 0)])).length) Slot.unset).toArray = ls at hl ⊢
  have hl : lv_has ls 1 [(0, .ref (AD 0))] := hl
  have hS : wS (cA AD ad td) s.heap s.heap [] := wS.rf
  have f_s := hB
  have hZ := trivial
  refine lv_aload_n hx hb dX5_undo_0 rfl (lv_at hl 0 rfl) ?_
  refine r_get (C := RX5) (T := TX5) (N := 4) hx hb hts i_X5_undo_X5 hown hK f_s.1 rfl 2 (by decide) k_X5_undo_fieldLink_216 rfl rfl dX5_undo_1 ?_
  refine bz_ne (tgt := 10) hx hb dX5_undo_4 (by decide) (fun h_1 => ?_) (fun h_1 => ?_)
  · refine lv_aload_n hx hb dX5_undo_10 rfl (lv_at hl 0 rfl) ?_
    refine r_get (C := RX5) (T := TX5) (N := 4) hx hb hts i_X5_undo_X5 hown hK f_s.1 rfl 0 (by decide) k_X5_undo_fieldLink_14 rfl rfl dX5_undo_11 ?_
    refine lv_aload_n hx hb dX5_undo_14 rfl (lv_at hl 0 rfl) ?_
    refine r_get (C := RX5) (T := TX5) (N := 4) hx hb hts i_X5_undo_X5 hown hK f_s.1 rfl 1 (by decide) k_X5_undo_fieldLink_18 rfl rfl dX5_undo_15 ?_
    refine wr_callv (va_runV (As := [.ref (td 0)]) (rest := []) hC (c_X4_copy l G ad td wd wt hN.1 (fun i j hi hj => (hN.2.2.2.1 i j hi hj).symm) hby) (cwV 1 hts gX5_undo_X4_copy rfl rfl rfl kd_X4_copy ⟨Nat.le_of_ble_eq_true rfl, Nat.le_of_ble_eq_true rfl⟩) (ro_preV hK f_s.2.1.1 rfl ⟨f_s.2.1, f_s.2.2.1⟩) rfl rfl hl.1 rfl (lv_room (Nat.le_of_ble_eq_true rfl)) dX5_undo_18 ⟨Nat.zero_le _, Nat.zero_le _⟩) hS (fun q h => Or.inr (Or.inl h)) (fun H locs f_n hq hS => ?_)
    have f_s := (CAt.setNow f_s hN f_n.1 hq : CAt G AD ad td (u_copy wd wt) wt tk rn bo H)
    refine lv_aload_n hx hb dX5_undo_21 rfl (lv_at hl 0 rfl) ?_
    refine r_get (C := RX5) (T := TX5) (N := 4) hx hb hts i_X5_undo_X5 hown hK f_s.1 rfl 0 (by decide) k_X5_undo_fieldLink_14 rfl rfl dX5_undo_22 ?_
    refine r_get (C := RX4) (T := TX4) (N := 6) hx hb hts i_X5_undo_X4 hown hK f_s.2.1.1 rfl 0 (by decide) k_X5_undo_fieldLink_28 rfl rfl dX5_undo_25 ?_
    refine r_get (C := RX2) (T := TX2) (N := 4) hx hb hts i_X5_undo_X2 hown hK f_s.2.1.2.1.1 rfl 3 (by decide) k_X5_undo_fieldLink_54 rfl rfl dX5_undo_28 ?_
    have hE9 : s_undo wd wt tk = (nI (wCh (u_copy wd wt)).1, (u_copy wd wt)) := (by (try unfold s_undo); (repeat rw [if_pos h_1]); first | done | rfl)
    exact wr_iret hx hb hr hlocks dX5_undo_31 hS (by rw [hE9]; exact f_s) (by rw [hE9]; first | done | rfl)
  · refine lv_bipush (v := (-3)) hx hb dX5_undo_7 (by decide +kernel) ?_
    have hE9 : s_undo wd wt tk = ((-3), wd) := (by (try unfold s_undo); (repeat rw [if_neg h_1]); first | done | rfl)
    exact wr_iret hx hb hr hlocks dX5_undo_9 hS (by rw [hE9]; exact f_s) (by rw [hE9]; first | done | rfl)
theorem c2_X5_undo (l : Launch) (G : GG) (AD ad td : Nat → Nat) (wd wt : WT) (tk : Bool) (rn : Int32) (bo : Nat → Int32) (hN : cN AD ad td) (hby : byF (wTp wt).2.2) (r9 : Int32) (wd9 : WT) (hy9 : s_undo wd wt tk = (r9, wd9)) : Met l yX5_undo wsX5_undo { frames := 4, cells := 0, slots := 0, locals := 124 } (roP G [.ref (AD 0)] (fun H => CAt G AD ad td wd wt tk rn bo H)) (wrQ (some (.int r9)) (fun H => CAt G AD ad td wd9 wt tk rn bo H) (cA AD ad td)) 0 0 (cA AD ad td) := by
  have h9 := c_X5_undo l G AD ad td wd wt tk rn bo hN hby
  rw [hy9] at h9
  exact h9
theorem isKind_in {k : Int32} (h : f_isKind k = true) : vp_in k 7 := by
  unfold f_isKind at h
  split at h
  · cases h
  · split at h
    · cases h
    · rename_i h1 h2
      exact vp_of (n := 7) rfl h1 h2 (by decide)
theorem k_X5_isUnder_fieldLink_220 : Cond.fieldLink RX5 220 "SameWater" "ABOVE" "[I" ∈ wsX5_isUnder := by decide +kernel
def f_undGo (top : Int32) : Nat → Nat → Int32 → Bool
  | 0, _, _ => false
  | n + 1, k, at9 => if (f_isKind at9) = true then if at9 = top then true else f_undGo top n (k + 1) (tAbv (at9).toNatClampNeg) else false
theorem f_undGo_0 (top : Int32) (k : Nat) (at9 : Int32) : f_undGo top 0 k at9 = (false) := rfl
theorem f_undGo_s (top : Int32) (n k : Nat) (at9 : Int32) : f_undGo top (n + 1) k at9 = (if (f_isKind at9) = true then if at9 = top then true else f_undGo top n (k + 1) (tAbv (at9).toNatClampNeg) else false) := rfl
def f_isUnder (kind top : Int32) : Bool := (f_undGo top 7 0 kind)
set_option maxHeartbeats 4000000 in
set_option maxRecDepth 100000 in
theorem c_X5_isUnder (l : Launch) (G : GG) (Z : AM) (kind top : Int32)  : Met l yX5_isUnder wsX5_isUnder { frames := 1, cells := 0, slots := 0, locals := 20 } (aP G Z [.int kind, .int top] (fun H => True)) (roQ (some (.int (b2i (f_isUnder kind top))))) 0 0 nF := by
  refine Met.ofW (cc := cX5_isUnder) (maxL := 4) (ret := (some .boolean)) (by decide) rfl ?_
  intro p e s m args below meth c s₁ Bd hml hv
  obtain ⟨rfl, hK, hZ, hB⟩ := hv
  have hx := Bd.exec
  have hb := Bd.bytes
  have hr := Bd.returns
  have hts := atoms_spec (ws := wsX5_isUnder) Bd.pre
  have hown : s.vm.findClass RX5 = some m.cls := findClass_of_methodNamed Bd.named
  have hlocks := Bd.notSynchronized
  have hC : CallFix p m c cX5_isUnder 4 s _ wsX5_isUnder RX5 := ⟨hx, hb, hml, hown, hts⟩
  have hl := lv_entry ([.int kind, .int top]) (n := 4) (Nat.le_of_ble_eq_true rfl)
  rw [lg_entry_eq]
  generalize (lg_sl ([.int kind, .int top]) ++ List.replicate (4 - (lg_sl ([.int kind, .int top])).length) Slot.unset).toArray = ls at hl ⊢
  have hl : lv_has ls 4 [(0, .int kind), (1, .int top)] := hl
  refine lv_iload_n hx hb dX5_isUnder_0 rfl (lv_at hl 0 rfl) ?_
  refine lv_istore_n (lv' := [(2, .int kind), (0, .int kind), (1, .int top)]) hx hb dX5_isUnder_1 rfl hl (by decide) rfl (fun ls hl => ?_)
  refine lv_iconst (v := 0) hx hb dX5_isUnder_2 (by decide) ?_
  refine lv_istore_n (lv' := [(3, .int 0), (2, .int kind), (0, .int kind), (1, .int top)]) hx hb dX5_isUnder_3 rfl hl (by decide) rfl (fun ls hl => ?_)
  refine loop_at (nL := 4) (α := Nat × Int32) (fun a9 => [(0, .int kind), (1, .int top), (2, .int (a9.2)), (3, .int (nI (a9.1)))]) (fun a9 => a9.1 ≤ 7 ∧ f_undGo top (7 - a9.1) a9.1 a9.2 = f_undGo top 7 0 kind) (fun a9 => 7 - a9.1) (0, kind) ⟨(by first | exact Nat.zero_le _ | decide | omega), rfl⟩ (lv_sub hl [2, 3, 1, 0] rfl) (fun a9 hI9 ih_k ls hl => ?_)
  obtain ⟨k, at9⟩ := a9
  obtain ⟨hk_k, hV⟩ : k ≤ 7 ∧ f_undGo top (7 - k) k at9 = f_undGo top 7 0 kind := hI9
  have hl : lv_has ls 4 [(0, .int kind), (1, .int top), (2, .int at9), (3, .int (nI k))] := hl
  refine lv_iload_n hx hb dX5_isUnder_4 rfl (lv_at hl 3 rfl) ?_
  refine lv_bipush (v := 7) hx hb dX5_isUnder_5 (by decide +kernel) ?_
  refine lv_icmp_ge (tgt := 36) hx hb dX5_isUnder_7 (by decide) (fun h_1 => ?_) (fun h_1 => ?_)
  · have hN_k : k = 7 := ge_ex (N := 7) rfl h_1 hk_k (by omega)
    subst hN_k
    rw [Nat.sub_self] at hV
    refine lv_iconst (v := 0) hx hb dX5_isUnder_36 (by decide) ?_
    exact ro_zret hx hb hr hlocks dX5_isUnder_37 (by (try unfold f_isUnder); rw [← hV, f_undGo_0]; first | done | rfl)
  · have hlt_k : k < 7 := ge_in (N := 7) rfl h_1 hk_k (by omega)
    obtain ⟨n9, hn9⟩ : ∃ n9, 7 - k = n9 + 1 := ⟨7 - k - 1, by omega⟩
    rw [hn9] at hV
    refine lv_iload_n hx hb dX5_isUnder_10 rfl (lv_at hl 2 rfl) ?_
    refine ro_call (va_runS (As := [.int at9]) (rest := []) hC (c_X5_isKind l G at9) (va_cwS 1 hts gX5_isUnder_X5_isKind rfl rfl rfl kd_X5_isKind ⟨Nat.le_of_ble_eq_true rfl, Nat.le_of_ble_eq_true rfl⟩) (ro_preS hK trivial) rfl rfl hl.1 rfl (lv_room (Nat.le_of_ble_eq_true rfl)) dX5_isUnder_11 ⟨Nat.zero_le _, Nat.zero_le _⟩) ?_
    refine bz_eq (tgt := 36) hx hb dX5_isUnder_14 (by decide) (fun h_2 => ?_) (fun h_2 => ?_)
    · refine lv_iconst (v := 0) hx hb dX5_isUnder_36 (by decide) ?_
      exact ro_zret hx hb hr hlocks dX5_isUnder_37 (by (try unfold f_isUnder); rw [← hV, f_undGo_s]; (repeat rw [if_neg h_1]); (repeat rw [if_neg h_2]); first | done | rfl)
    · refine lv_iload_n hx hb dX5_isUnder_17 rfl (lv_at hl 2 rfl) ?_
      refine lv_iload_n hx hb dX5_isUnder_18 rfl (lv_at hl 1 rfl) ?_
      refine lv_icmp_ne (tgt := 24) hx hb dX5_isUnder_19 (by decide) (fun h_3 => ?_) (fun h_3 => ?_)
      · refine a_gets hx hb hZ.2.2.2.1.1 hts hown k_X5_isUnder_fieldLink_220 rfl dX5_isUnder_24 ?_
        refine lv_iload_n hx hb dX5_isUnder_27 rfl (lv_at hl 2 rfl) ?_
        refine a_iald hx hb hZ.2.2.2.1.2 (isKind_in h_2) dX5_isUnder_28 ?_
        refine lv_istore_n (lv' := [(2, .int (tAbv (at9).toNatClampNeg)), (0, .int kind), (1, .int top), (3, .int (nI k))]) hx hb dX5_isUnder_29 rfl hl (by decide) rfl (fun ls hl => ?_)
        refine lv_iinc (v := (nI k) + 1) (lv' := [(3, .int ((nI k) + 1)), (2, .int (tAbv (at9).toNatClampNeg)), (0, .int kind), (1, .int top)]) hx hb dX5_isUnder_30 hl (k := 3) rfl rfl (by decide) rfl (fun ls hl => ?_)
        refine lv_goto (tgt := 4) hx hb dX5_isUnder_33 (by decide) ?_
        have hE : f_undGo top n9 (k + 1) (tAbv (at9).toNatClampNeg) = f_undGo top 7 0 kind := (by rw [← hV, f_undGo_s]; (repeat rw [if_pos h_2]); (repeat rw [if_neg h_3]); first | done | rfl)
        refine ih_k ((k + 1, tAbv (at9).toNatClampNeg)) ⟨(show k + 1 ≤ 7 by omega), (by show f_undGo top (7 - (k + 1)) (k + 1) (tAbv (at9).toNatClampNeg) = _; rw [show 7 - (k + 1) = n9 by omega]; exact hE)⟩ (show 7 - (k + 1) < 7 - k by omega) ls ?_
        show lv_has ls 4 [(0, .int kind), (1, .int top), (2, .int (tAbv (at9).toNatClampNeg)), (3, .int (nI (k + 1)))]
        rw [nI_succ]
        exact lv_sub hl [2, 3, 1, 0] rfl
      · refine lv_iconst (v := 1) hx hb dX5_isUnder_22 (by decide) ?_
        exact ro_zret hx hb hr hlocks dX5_isUnder_23 (by (try unfold f_isUnder); rw [← hV, f_undGo_s]; (repeat rw [if_neg h_1]); (repeat rw [if_pos h_2]); (repeat rw [if_pos h_3]); first | done | rfl)
theorem i_X5_as_X5 : ∀ w ∈ wsX50, w ∈ wsX5_as := fun _ h => List.mem_cons_of_mem _ (List.mem_append_left _ (List.mem_append_left _ (List.mem_append_right _ h)))
theorem k_X5_as_fieldLink_14 : Cond.fieldLink RX5 14 "SameWater" "now" "LSameWater$World;" ∈ wsX5_as := by decide +kernel
theorem i_X5_as_X4 : ∀ w ∈ wsX40, w ∈ wsX5_as := fun _ h => List.mem_cons_of_mem _ (List.mem_append_left _ (List.mem_append_right _ h))
theorem k_X5_as_fieldLink_96 : Cond.fieldLink RX5 96 "SameWater$World" "laws" "[LSameWater$Law;" ∈ wsX5_as := by decide +kernel
theorem i_X5_as_X1 : ∀ w ∈ wsX10, w ∈ wsX5_as := fun _ h => List.mem_cons_of_mem _ (List.mem_append_right _ h)
theorem k_X5_as_fieldLink_112 : Cond.fieldLink RX5 112 "SameWater$Law" "kind" "I" ∈ wsX5_as := by decide +kernel
theorem k_X5_as_fieldLink_115 : Cond.fieldLink RX5 115 "SameWater$Law" "v" "I" ∈ wsX5_as := by decide +kernel
theorem kd_X5_isUnder : yX5_isUnder.cls ≠ "java/lang/invoke/MethodHandle" ∧ yX5_isUnder.cls ≠ "java/lang/invoke/VarHandle" ∧ (parseMethodDescriptor yX5_isUnder.desc).map (fun d => d.parameters.length) = some 2 := by decide +kernel
def s_as (wd : WT) (law : Int32) (kk : Int32) : Int32 := if (w_hasLaw wd law) = true then if (f_isKind kk) = true then if (f_isUnder (lKind (wLw wd law.toNatClampNeg)) kk) = true then lV (wLw wd law.toNatClampNeg) else (-6) else (-1) else (-1)
set_option maxHeartbeats 4000000 in
set_option maxRecDepth 100000 in
theorem c_X5_as (l : Launch) (G : GG) (Z : AM) (AD ad td : Nat → Nat) (wd wt : WT) (tk : Bool) (rn : Int32) (bo : Nat → Int32) (law : Int32) (kk : Int32)  : Met l yX5_as wsX5_as { frames := 2, cells := 0, slots := 0, locals := 43 } (aP G Z [.ref (AD 0), .int law, .int kk] (fun H => CAt G AD ad td wd wt tk rn bo H)) (roQ (some (.int (s_as wd law kk)))) 0 0 nF := by
  refine Met.ofW (cc := cX5_as) (maxL := 3) (ret := (some .int)) (by decide) rfl ?_
  intro p e s m args below meth c s₁ Bd hml hv
  obtain ⟨rfl, hK, hZ, hB⟩ := hv
  have hx := Bd.exec
  have hb := Bd.bytes
  have hr := Bd.returns
  have hts := atoms_spec (ws := wsX5_as) Bd.pre
  have hown : s.vm.findClass RX5 = some m.cls := findClass_of_methodNamed Bd.named
  have hlocks := Bd.notSynchronized
  have hC : CallFix p m c cX5_as 3 s _ wsX5_as RX5 := ⟨hx, hb, hml, hown, hts⟩
  have hl := lv_entry ([.ref (AD 0), .int law, .int kk]) (n := 3) (Nat.le_of_ble_eq_true rfl)
  rw [lg_entry_eq]
  generalize (lg_sl ([.ref (AD 0), .int law, .int kk]) ++ List.replicate (3 - (lg_sl ([.ref (AD 0), .int law, .int kk])).length) Slot.unset).toArray = ls at hl ⊢
  have hl : lv_has ls 3 [(0, .ref (AD 0)), (1, .int law), (2, .int kk)] := hl
  have f_s := hB
  obtain ⟨f_c, hW, f_t, f_a, f_b⟩ := hB
  obtain ⟨f_o, f_ch, f_as, f_an, f_tp, ⟨qf, f_q, hqf⟩, f_lw, hlc⟩ := id hW
  refine lv_aload_n hx hb dX5_as_0 rfl (lv_at hl 0 rfl) ?_
  refine r_get (C := RX5) (T := TX5) (N := 4) hx hb hts i_X5_as_X5 hown hK f_c rfl 0 (by decide) k_X5_as_fieldLink_14 rfl rfl dX5_as_1 ?_
  refine lv_iload_n hx hb dX5_as_4 rfl (lv_at hl 1 rfl) ?_
  refine ro_call (va_runV (As := [.int law]) (rest := []) hC (c_X4_hasLaw l G ad wd law) (cwV 1 hts gX5_as_X4_hasLaw rfl rfl rfl kd_X4_hasLaw ⟨Nat.le_of_ble_eq_true rfl, Nat.le_of_ble_eq_true rfl⟩) (ro_preV hK f_o rfl hW) rfl rfl hl.1 rfl (lv_room (Nat.le_of_ble_eq_true rfl)) dX5_as_5 ⟨Nat.zero_le _, Nat.zero_le _⟩) ?_
  refine bz_eq (tgt := 18) hx hb dX5_as_8 (by decide) (fun h_1 => ?_) (fun h_1 => ?_)
  · refine lv_iconst (v := (-1)) hx hb dX5_as_18 (by decide) ?_
    exact ro_iret hx hb hr hlocks dX5_as_19 (by (try unfold s_as); (repeat rw [if_neg h_1]); first | done | rfl)
  · refine lv_iload_n hx hb dX5_as_11 rfl (lv_at hl 2 rfl) ?_
    refine ro_call (va_runS (As := [.int kk]) (rest := []) hC (c_X5_isKind l G kk) (va_cwS 1 hts gX5_as_X5_isKind rfl rfl rfl kd_X5_isKind ⟨Nat.le_of_ble_eq_true rfl, Nat.le_of_ble_eq_true rfl⟩) (ro_preS hK trivial) rfl rfl hl.1 rfl (lv_room (Nat.le_of_ble_eq_true rfl)) dX5_as_12 ⟨Nat.zero_le _, Nat.zero_le _⟩) ?_
    refine bz_ne (tgt := 20) hx hb dX5_as_15 (by decide) (fun h_2 => ?_) (fun h_2 => ?_)
    · refine lv_aload_n hx hb dX5_as_20 rfl (lv_at hl 0 rfl) ?_
      refine r_get (C := RX5) (T := TX5) (N := 4) hx hb hts i_X5_as_X5 hown hK f_c rfl 0 (by decide) k_X5_as_fieldLink_14 rfl rfl dX5_as_21 ?_
      refine r_get (C := RX4) (T := TX4) (N := 6) hx hb hts i_X5_as_X4 hown hK f_o rfl 4 (by decide) k_X5_as_fieldLink_96 rfl rfl dX5_as_24 ?_
      refine lv_iload_n hx hb dX5_as_27 rfl (lv_at hl 1 rfl) ?_
      refine r_qald hx hb hK f_q (hasLaw_in h_1) (hqf _ (vp_lt (hasLaw_in h_1))) dX5_as_28 ?_
      refine r_get (C := RX1) (T := TX1) (N := 8) hx hb hts i_X5_as_X1 hown hK (f_lw _ (vp_lt (hasLaw_in h_1))).1 rfl 1 (by decide) k_X5_as_fieldLink_112 rfl rfl dX5_as_29 ?_
      refine lv_iload_n hx hb dX5_as_32 rfl (lv_at hl 2 rfl) ?_
      refine ro_call (va_runS (As := [.int (lKind (wLw wd law.toNatClampNeg)), .int kk]) (rest := []) hC (c_X5_isUnder l G Z (lKind (wLw wd law.toNatClampNeg)) kk) (va_cwS 2 hts gX5_as_X5_isUnder rfl rfl rfl kd_X5_isUnder ⟨Nat.le_of_ble_eq_true rfl, Nat.le_of_ble_eq_true rfl⟩) (a_preS hK hZ trivial) rfl rfl hl.1 rfl (lv_room (Nat.le_of_ble_eq_true rfl)) dX5_as_33 ⟨Nat.zero_le _, Nat.zero_le _⟩) ?_
      refine join_at (nL := 3) 56 [(0, .ref (AD 0)), (1, .int law), (2, .int kk)] [.int (if (f_isUnder (lKind (wLw wd law.toNatClampNeg)) kk) = true then lV (wLw wd law.toNatClampNeg) else (-6))] (fun ls hl => ?_) (fun J_3 => ?_)
      · exact ro_iret hx hb hr hlocks dX5_as_56 (by (try unfold s_as); (repeat rw [if_pos h_1]); (repeat rw [if_pos h_2]); first | done | rfl)
      · refine bz_eq (tgt := 54) hx hb dX5_as_36 (by decide) (fun h_4 => ?_) (fun h_4 => ?_)
        · refine lv_bipush (v := (-6)) hx hb dX5_as_54 (by decide +kernel) ?_
          have hJ := J_3; (repeat rw [if_neg h_4] at hJ)
          first | exact hJ ls (lv_sub hl [0, 1, 2] rfl) | ((repeat rw [if_neg h_4] at hl); (repeat rw [if_neg h_4]); exact hJ ls (lv_sub hl [0, 1, 2] rfl))
        · refine lv_aload_n hx hb dX5_as_39 rfl (lv_at hl 0 rfl) ?_
          refine r_get (C := RX5) (T := TX5) (N := 4) hx hb hts i_X5_as_X5 hown hK f_c rfl 0 (by decide) k_X5_as_fieldLink_14 rfl rfl dX5_as_40 ?_
          refine r_get (C := RX4) (T := TX4) (N := 6) hx hb hts i_X5_as_X4 hown hK f_o rfl 4 (by decide) k_X5_as_fieldLink_96 rfl rfl dX5_as_43 ?_
          refine lv_iload_n hx hb dX5_as_46 rfl (lv_at hl 1 rfl) ?_
          refine r_qald hx hb hK f_q (hasLaw_in h_1) (hqf _ (vp_lt (hasLaw_in h_1))) dX5_as_47 ?_
          refine r_get (C := RX1) (T := TX1) (N := 8) hx hb hts i_X5_as_X1 hown hK (f_lw _ (vp_lt (hasLaw_in h_1))).1 rfl 2 (by decide) k_X5_as_fieldLink_115 rfl rfl dX5_as_48 ?_
          refine lv_goto (tgt := 56) hx hb dX5_as_51 (by decide) ?_
          have hJ := J_3; (repeat rw [if_pos h_4] at hJ)
          first | exact hJ ls (lv_sub hl [0, 1, 2] rfl) | ((repeat rw [if_pos h_4] at hl); (repeat rw [if_pos h_4]); exact hJ ls (lv_sub hl [0, 1, 2] rfl))
    · refine lv_iconst (v := (-1)) hx hb dX5_as_18 (by decide) ?_
      exact ro_iret hx hb hr hlocks dX5_as_19 (by (try unfold s_as); (repeat rw [if_pos h_1]); (repeat rw [if_neg h_2]); first | done | rfl)
theorem and63 (x : Int32) : ¬ (x &&& 63) < 0 ∧ (x &&& 63).toNatClampNeg < 64 := by
  obtain ⟨j, hj, e⟩ := pk_andE x (m := 63) 6 (by decide)
  rw [e, nI_clamp (by omega)]
  exact ⟨nI_pos (by omega), hj⟩
theorem bc_pos (x : Int32) : ¬ f_bitCount x < 0 ∧ (f_bitCount x).toNatClampNeg < 64 := and63 _
theorem i_X5_odds_X5 : ∀ w ∈ wsX50, w ∈ wsX5_odds := fun _ h => List.mem_cons_of_mem _ (List.mem_append_left _ (List.mem_append_left _ (List.mem_append_left _ (List.mem_append_right _ h))))
theorem k_X5_odds_fieldLink_14 : Cond.fieldLink RX5 14 "SameWater" "now" "LSameWater$World;" ∈ wsX5_odds := by decide +kernel
theorem k_X5_odds_constantLong_139 : Cond.constantLong RX5 139 (-9223372036854775808) ∈ wsX5_odds := by decide +kernel
theorem k_X5_odds_constantLong_144 : Cond.constantLong RX5 144 (200) ∈ wsX5_odds := by decide +kernel
def s_oddIt_st (k : Nat) (be : Int64) : Int64 := be * 200
def s_oddIt (be0 : Int64) : Nat → Int64
  | 0 => be0
  | k + 1 => s_oddIt_st k (s_oddIt be0 k)
def s_odds (wd : WT) (law : Int32) (set0 : Int32) (part : Int32) : Int64 := if (w_hasLaw wd law) = true then if (w_isSet wd set0) = true then if (f_isPart part) = true then f_lowest (w_oddsAbove wd law set0) (s_oddIt 1 ((f_bitCount set0).toNatClampNeg)) part else (-9223372036854775808) else (-9223372036854775808) else (-9223372036854775808)
set_option maxHeartbeats 4000000 in
set_option maxRecDepth 100000 in
theorem c_X5_odds (l : Launch) (G : GG) (AD ad td : Nat → Nat) (wd wt : WT) (tk : Bool) (rn : Int32) (bo : Nat → Int32) (law : Int32) (set0 : Int32) (part : Int32)  : Met l yX5_odds wsX5_odds { frames := 7, cells := 0, slots := 0, locals := 188 } (roP G [.ref (AD 0), .int law, .int set0, .int part] (fun H => CAt G AD ad td wd wt tk rn bo H)) (roQ (some (.long (s_odds wd law set0 part)))) 0 0 nF := by
  refine Met.ofW (cc := cX5_odds) (maxL := 7) (ret := (some .long)) (by decide) rfl ?_
  intro p e s m args below meth c s₁ Bd hml hv
  obtain ⟨rfl, hK, hB⟩ := hv
  have hx := Bd.exec
  have hb := Bd.bytes
  have hr := Bd.returns
  have hts := atoms_spec (ws := wsX5_odds) Bd.pre
  have hown : s.vm.findClass RX5 = some m.cls := findClass_of_methodNamed Bd.named
  have hlocks := Bd.notSynchronized
  have hC : CallFix p m c cX5_odds 7 s _ wsX5_odds RX5 := ⟨hx, hb, hml, hown, hts⟩
  have hl := lv_entry ([.ref (AD 0), .int law, .int set0, .int part]) (n := 7) (Nat.le_of_ble_eq_true rfl)
  rw [lg_entry_eq]
  generalize (lg_sl ([.ref (AD 0), .int law, .int set0, .int part]) ++ List.replicate (7 - (lg_sl ([.ref (AD 0), .int law, .int set0, .int part])).length) Slot.unset).toArray = ls at hl ⊢
  have hl : lv_has ls 7 [(0, .ref (AD 0)), (1, .int law), (2, .int set0), (3, .int part)] := hl
  have f_s := hB
  obtain ⟨f_c, hW, f_t, f_a, f_b⟩ := hB
  obtain ⟨f_o, f_ch, f_as, f_an, f_tp, ⟨qf, f_q, hqf⟩, f_lw, hlc⟩ := id hW
  have hbc := bc_pos set0
  refine lv_aload_n hx hb dX5_odds_0 rfl (lv_at hl 0 rfl) ?_
  refine r_get (C := RX5) (T := TX5) (N := 4) hx hb hts i_X5_odds_X5 hown hK f_c rfl 0 (by decide) k_X5_odds_fieldLink_14 rfl rfl dX5_odds_1 ?_
  refine lv_iload_n hx hb dX5_odds_4 rfl (lv_at hl 1 rfl) ?_
  refine ro_call (va_runV (As := [.int law]) (rest := []) hC (c_X4_hasLaw l G ad wd law) (cwV 1 hts gX5_odds_X4_hasLaw rfl rfl rfl kd_X4_hasLaw ⟨Nat.le_of_ble_eq_true rfl, Nat.le_of_ble_eq_true rfl⟩) (ro_preV hK f_o rfl hW) rfl rfl hl.1 rfl (lv_room (Nat.le_of_ble_eq_true rfl)) dX5_odds_5 ⟨Nat.zero_le _, Nat.zero_le _⟩) ?_
  refine bz_eq (tgt := 29) hx hb dX5_odds_8 (by decide) (fun h_1 => ?_) (fun h_1 => ?_)
  · refine lv_ldc2 (v := (-9223372036854775808)) hx hb hown (hts _ k_X5_odds_constantLong_139) dX5_odds_29 ?_
    exact ro_lret hx hb hr hlocks dX5_odds_32 (by (try unfold s_odds); (repeat rw [if_neg h_1]); first | done | rfl)
  · refine lv_aload_n hx hb dX5_odds_11 rfl (lv_at hl 0 rfl) ?_
    refine r_get (C := RX5) (T := TX5) (N := 4) hx hb hts i_X5_odds_X5 hown hK f_c rfl 0 (by decide) k_X5_odds_fieldLink_14 rfl rfl dX5_odds_12 ?_
    refine lv_iload_n hx hb dX5_odds_15 rfl (lv_at hl 2 rfl) ?_
    refine ro_call (va_runV (As := [.int set0]) (rest := []) hC (c_X4_isSet l G ad wd set0) (cwV 1 hts gX5_odds_X4_isSet rfl rfl rfl kd_X4_isSet ⟨Nat.le_of_ble_eq_true rfl, Nat.le_of_ble_eq_true rfl⟩) (ro_preV hK f_o rfl hW) rfl rfl hl.1 rfl (lv_room (Nat.le_of_ble_eq_true rfl)) dX5_odds_16 ⟨Nat.zero_le _, Nat.zero_le _⟩) ?_
    refine bz_eq (tgt := 29) hx hb dX5_odds_19 (by decide) (fun h_2 => ?_) (fun h_2 => ?_)
    · refine lv_ldc2 (v := (-9223372036854775808)) hx hb hown (hts _ k_X5_odds_constantLong_139) dX5_odds_29 ?_
      exact ro_lret hx hb hr hlocks dX5_odds_32 (by (try unfold s_odds); (repeat rw [if_pos h_1]); (repeat rw [if_neg h_2]); first | done | rfl)
    · refine lv_iload_n hx hb dX5_odds_22 rfl (lv_at hl 3 rfl) ?_
      refine ro_call (va_runS (As := [.int part]) (rest := []) hC (c_X5_isPart l G part) (va_cwS 1 hts gX5_odds_X5_isPart rfl rfl rfl kd_X5_isPart ⟨Nat.le_of_ble_eq_true rfl, Nat.le_of_ble_eq_true rfl⟩) (ro_preS hK trivial) rfl rfl hl.1 rfl (lv_room (Nat.le_of_ble_eq_true rfl)) dX5_odds_23 ⟨Nat.zero_le _, Nat.zero_le _⟩) ?_
      refine bz_ne (tgt := 33) hx hb dX5_odds_26 (by decide) (fun h_3 => ?_) (fun h_3 => ?_)
      · refine lv_lconst (v := 1) hx hb dX5_odds_33 (by decide) ?_
        refine lv_lstore (lv' := [(4, .long 1), (0, .ref (AD 0)), (1, .int law), (2, .int set0), (3, .int part)]) hx hb dX5_odds_34 hl (by decide) rfl (fun ls hl => ?_)
        refine lv_iconst (v := 0) hx hb dX5_odds_36 (by decide) ?_
        refine lv_istore (lv' := [(6, .int 0), (4, .long 1), (0, .ref (AD 0)), (1, .int law), (2, .int set0), (3, .int part)]) hx hb dX5_odds_37 hl (by decide) rfl (fun ls hl => ?_)
        refine loop_at (nL := 7) (fun k : Nat => [(0, .ref (AD 0)), (1, .int law), (2, .int set0), (3, .int part), (4, .long (s_oddIt 1 k)), (6, .int (nI k))]) (fun k => k ≤ (f_bitCount set0).toNatClampNeg) (fun k => (f_bitCount set0).toNatClampNeg - k) 0 (Nat.zero_le _) (lv_sub hl [2, 3, 4, 5, 1, 0] rfl) (fun k hk_k ih_k ls hl => ?_)
        have hl : lv_has ls 7 [(0, .ref (AD 0)), (1, .int law), (2, .int set0), (3, .int part), (4, .long (s_oddIt 1 k)), (6, .int (nI k))] := hl
        refine lv_iload hx hb dX5_odds_39 (lv_at hl 5 rfl) ?_
        refine lv_iload_n hx hb dX5_odds_41 rfl (lv_at hl 2 rfl) ?_
        refine ro_call (va_runS (As := [.int set0]) (rest := [.int (nI k)]) hC (c_J6_bitCount_0f7a4 l G set0) (va_cwS 1 hts gX5_odds_J6_bitCount_0f7a4 rfl rfl rfl kd_J6_bitCount_0f7a4 ⟨Nat.le_of_ble_eq_true rfl, Nat.le_of_ble_eq_true rfl⟩) (ro_preS hK trivial) rfl rfl hl.1 rfl (lv_room (Nat.le_of_ble_eq_true rfl)) dX5_odds_42 ⟨Nat.zero_le _, Nat.zero_le _⟩) ?_
        refine lv_icmp_ge (tgt := 62) hx hb dX5_odds_45 (by decide) (fun h_4 => ?_) (fun h_4 => ?_)
        · have hN_k : k = (f_bitCount set0).toNatClampNeg := ge_ex (N := (f_bitCount set0).toNatClampNeg) (nI_back hbc.1).symm h_4 hk_k (by have := hbc.2; omega)
          subst hN_k
          refine lv_aload_n hx hb dX5_odds_62 rfl (lv_at hl 0 rfl) ?_
          refine r_get (C := RX5) (T := TX5) (N := 4) hx hb hts i_X5_odds_X5 hown hK f_c rfl 0 (by decide) k_X5_odds_fieldLink_14 rfl rfl dX5_odds_63 ?_
          refine lv_iload_n hx hb dX5_odds_66 rfl (lv_at hl 1 rfl) ?_
          refine lv_iload_n hx hb dX5_odds_67 rfl (lv_at hl 2 rfl) ?_
          refine ro_call (va_runV (As := [.int law, .int set0]) (rest := []) hC (c_X4_oddsAbove l G ad wd law set0) (cwV 2 hts gX5_odds_X4_oddsAbove rfl rfl rfl kd_X4_oddsAbove ⟨Nat.le_of_ble_eq_true rfl, Nat.le_of_ble_eq_true rfl⟩) (ro_preV hK f_o rfl hW) rfl rfl hl.1 rfl (lv_room (Nat.le_of_ble_eq_true rfl)) dX5_odds_68 ⟨Nat.zero_le _, Nat.zero_le _⟩) ?_
          refine lv_lload hx hb dX5_odds_71 (lv_at hl 4 rfl) ?_
          refine lv_iload_n hx hb dX5_odds_73 rfl (lv_at hl 3 rfl) ?_
          refine ro_call (va_runS (As := [.long (w_oddsAbove wd law set0), .long (s_oddIt 1 ((f_bitCount set0).toNatClampNeg)), .int part]) (rest := []) hC (c_X5_lowest l G (w_oddsAbove wd law set0) (s_oddIt 1 ((f_bitCount set0).toNatClampNeg)) part) (va_cwS 3 hts gX5_odds_X5_lowest rfl rfl rfl kd_X5_lowest ⟨Nat.le_of_ble_eq_true rfl, Nat.le_of_ble_eq_true rfl⟩) (ro_preS hK trivial) rfl rfl hl.1 rfl (lv_room (Nat.le_of_ble_eq_true rfl)) dX5_odds_74 ⟨Nat.zero_le _, Nat.zero_le _⟩) ?_
          exact ro_lret hx hb hr hlocks dX5_odds_77 (by (try unfold s_odds); (repeat rw [if_pos h_1]); (repeat rw [if_pos h_2]); (repeat rw [if_pos h_3]); first | done | rfl)
        · have hlt_k : k < (f_bitCount set0).toNatClampNeg := ge_in (N := (f_bitCount set0).toNatClampNeg) (nI_back hbc.1).symm h_4 hk_k (by have := hbc.2; omega)
          refine lv_lload hx hb dX5_odds_48 (lv_at hl 4 rfl) ?_
          refine lv_ldc2 (v := 200) hx hb hown (hts _ k_X5_odds_constantLong_144) dX5_odds_50 ?_
          refine lv_lmul hx hb dX5_odds_53 ?_
          refine lv_lstore (lv' := [(4, .long ((s_oddIt 1 k) * 200)), (0, .ref (AD 0)), (1, .int law), (2, .int set0), (3, .int part), (6, .int (nI k))]) hx hb dX5_odds_54 hl (by decide) rfl (fun ls hl => ?_)
          refine lv_iinc (v := (nI k) + 1) (lv' := [(6, .int ((nI k) + 1)), (4, .long ((s_oddIt 1 k) * 200)), (0, .ref (AD 0)), (1, .int law), (2, .int set0), (3, .int part)]) hx hb dX5_odds_56 hl (k := 5) rfl rfl (by decide) rfl (fun ls hl => ?_)
          refine lv_goto (tgt := 39) hx hb dX5_odds_59 (by decide) ?_
          have hE : (s_oddIt 1 (k + 1)) = (s_oddIt 1 k) * 200 := (by show s_oddIt_st k (s_oddIt 1 k) = _; (try unfold s_oddIt_st); first | done | rfl)
          refine ih_k (k + 1) (show k + 1 ≤ (f_bitCount set0).toNatClampNeg by omega) (by omega) ls ?_
          show lv_has ls 7 [(0, .ref (AD 0)), (1, .int law), (2, .int set0), (3, .int part), (4, .long (s_oddIt 1 (k + 1))), (6, .int (nI (k + 1)))]
          rw [nI_succ, hE]
          exact lv_sub hl [2, 3, 4, 5, 1, 0] rfl
      · refine lv_ldc2 (v := (-9223372036854775808)) hx hb hown (hts _ k_X5_odds_constantLong_139) dX5_odds_29 ?_
        exact ro_lret hx hb hr hlocks dX5_odds_32 (by (try unfold s_odds); (repeat rw [if_pos h_1]); (repeat rw [if_pos h_2]); (repeat rw [if_neg h_3]); first | done | rfl)

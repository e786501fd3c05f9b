abbrev lSetSlip (x : LawT) (v : Int32) : LawT := (x.1, x.2.1, x.2.2.1, v, x.2.2.2.2)
abbrev lSetFrom (x : LawT) (f : Nat → Int32) : LawT := (x.1, x.2.1, x.2.2.1, x.2.2.2.1, f, x.2.2.2.2.2)
abbrev lSetOv (x : LawT) (o : RwT) : LawT := (x.1, x.2.1, x.2.2.1, x.2.2.2.1, x.2.2.2.2.1, o, x.2.2.2.2.2.2)
abbrev lSetSt (x : LawT) (f : Nat → Int32) (c : Nat) : LawT := (x.1, x.2.1, x.2.2.1, x.2.2.2.1, x.2.2.2.2.1, x.2.2.2.2.2.1, f, c)
/-- a Law's five cells are apart -/
def lwN (A : Nat → Nat) : Prop := ∀ i j : Nat, i < 5 → j < 5 → i ≠ j → A i ≠ A j
def lwA (A : Nat → Nat) : Nat → Prop := fun q => ∃ i : Nat, i < 5 ∧ q = A i
theorem lwA.in (A : Nat → Nat) (i : Nat) (h : i < 5) : lwA A (A i) := ⟨i, h, rfl⟩
def f_isStuff (stuff : Int32) : Bool := (if stuff < 0 then false else if 4 ≤ stuff then false else true)
set_option maxHeartbeats 4000000 in
set_option maxRecDepth 100000 in
theorem c_X5_isStuff (l : Launch) (G : GG) (stuff : Int32)  : Met l yX5_isStuff wsX5_isStuff { frames := 0, cells := 0, slots := 0, locals := 0 } (roP G [.int stuff] (fun H => True)) (roQ (some (.int (b2i (f_isStuff stuff))))) 0 0 nF := by
  refine Met.ofW (cc := cX5_isStuff) (maxL := 1) (ret := (some .boolean)) (by decide) rfl ?_
  intro p e s m args below meth c s₁ Bd hml hv
  obtain ⟨rfl, hK, hB⟩ := hv
  have hx := Bd.exec
  have hb := Bd.bytes
  have hr := Bd.returns
  have hts := atoms_spec (ws := wsX5_isStuff) Bd.pre
  have hown : s.vm.findClass RX5 = some m.cls := findClass_of_methodNamed Bd.named
  have hlocks := Bd.notSynchronized
  have hC : CallFix p m c cX5_isStuff 1 s _ wsX5_isStuff RX5 := ⟨hx, hb, hml, hown, hts⟩
  have hl := lv_entry ([.int stuff]) (n := 1) (Nat.le_of_ble_eq_true rfl)
  rw [lg_entry_eq]
  generalize (lg_sl ([.int stuff]) ++ List.replicate (1 - (lg_sl ([.int stuff])).length) Slot.unset).toArray = ls at hl ⊢
  have hl : lv_has ls 1 [(0, .int stuff)] := hl
  refine lv_iload_n hx hb dX5_isStuff_0 rfl (lv_at hl 0 rfl) ?_
  refine join_at (nL := 1) 14 [(0, .int stuff)] [.int (b2i (if stuff < 0 then false else if 4 ≤ stuff then false else true))] (fun ls hl => ?_) (fun J_1 => ?_)
  · exact ro_zret hx hb hr hlocks dX5_isStuff_14 rfl
  · refine lv_if_lt (tgt := 13) hx hb dX5_isStuff_1 (by decide) (fun h_2 => ?_) (fun h_2 => ?_)
    · refine lv_iconst (v := 0) hx hb dX5_isStuff_13 (by decide) ?_
      have hJ := J_1; (repeat rw [if_pos h_2] at hJ)
      first | exact hJ ls (lv_sub hl [0] rfl) | ((repeat rw [if_pos h_2] at hl); (repeat rw [if_pos h_2]); exact hJ ls (lv_sub hl [0] rfl))
    · refine lv_iload_n hx hb dX5_isStuff_4 rfl (lv_at hl 0 rfl) ?_
      refine lv_iconst (v := 4) hx hb dX5_isStuff_5 (by decide) ?_
      refine lv_icmp_ge (tgt := 13) hx hb dX5_isStuff_6 (by decide) (fun h_3 => ?_) (fun h_3 => ?_)
      · refine lv_iconst (v := 0) hx hb dX5_isStuff_13 (by decide) ?_
        have hJ := J_1; (repeat rw [if_neg h_2] at hJ); (repeat rw [if_pos h_3] at hJ)
        first | exact hJ ls (lv_sub hl [0] rfl) | ((repeat rw [if_neg h_2] at hl); (repeat rw [if_pos h_3] at hl); (repeat rw [if_neg h_2]); (repeat rw [if_pos h_3]); exact hJ ls (lv_sub hl [0] rfl))
      · refine lv_iconst (v := 1) hx hb dX5_isStuff_9 (by decide) ?_
        refine lv_goto (tgt := 14) hx hb dX5_isStuff_10 (by decide) ?_
        have hJ := J_1; (repeat rw [if_neg h_2] at hJ); (repeat rw [if_neg h_3] at hJ)
        first | exact hJ ls (lv_sub hl [0] rfl) | ((repeat rw [if_neg h_2] at hl); (repeat rw [if_neg h_3] at hl); (repeat rw [if_neg h_2]); (repeat rw [if_neg h_3]); exact hJ ls (lv_sub hl [0] rfl))
def f_isKind (kind : Int32) : Bool := (if kind < 0 then false else if 7 ≤ kind then false else true)
set_option maxHeartbeats 4000000 in
set_option maxRecDepth 100000 in
theorem c_X5_isKind (l : Launch) (G : GG) (kind : Int32)  : Met l yX5_isKind wsX5_isKind { frames := 0, cells := 0, slots := 0, locals := 0 } (roP G [.int kind] (fun H => True)) (roQ (some (.int (b2i (f_isKind kind))))) 0 0 nF := by
  refine Met.ofW (cc := cX5_isKind) (maxL := 1) (ret := (some .boolean)) (by decide) rfl ?_
  intro p e s m args below meth c s₁ Bd hml hv
  obtain ⟨rfl, hK, hB⟩ := hv
  have hx := Bd.exec
  have hb := Bd.bytes
  have hr := Bd.returns
  have hts := atoms_spec (ws := wsX5_isKind) Bd.pre
  have hown : s.vm.findClass RX5 = some m.cls := findClass_of_methodNamed Bd.named
  have hlocks := Bd.notSynchronized
  have hC : CallFix p m c cX5_isKind 1 s _ wsX5_isKind RX5 := ⟨hx, hb, hml, hown, hts⟩
  have hl := lv_entry ([.int kind]) (n := 1) (Nat.le_of_ble_eq_true rfl)
  rw [lg_entry_eq]
  generalize (lg_sl ([.int kind]) ++ List.replicate (1 - (lg_sl ([.int kind])).length) Slot.unset).toArray = ls at hl ⊢
  have hl : lv_has ls 1 [(0, .int kind)] := hl
  refine lv_iload_n hx hb dX5_isKind_0 rfl (lv_at hl 0 rfl) ?_
  refine join_at (nL := 1) 15 [(0, .int kind)] [.int (b2i (if kind < 0 then false else if 7 ≤ kind then false else true))] (fun ls hl => ?_) (fun J_1 => ?_)
  · exact ro_zret hx hb hr hlocks dX5_isKind_15 rfl
  · refine lv_if_lt (tgt := 14) hx hb dX5_isKind_1 (by decide) (fun h_2 => ?_) (fun h_2 => ?_)
    · refine lv_iconst (v := 0) hx hb dX5_isKind_14 (by decide) ?_
      have hJ := J_1; (repeat rw [if_pos h_2] at hJ)
      first | exact hJ ls (lv_sub hl [0] rfl) | ((repeat rw [if_pos h_2] at hl); (repeat rw [if_pos h_2]); exact hJ ls (lv_sub hl [0] rfl))
    · refine lv_iload_n hx hb dX5_isKind_4 rfl (lv_at hl 0 rfl) ?_
      refine lv_bipush (v := 7) hx hb dX5_isKind_5 (by decide +kernel) ?_
      refine lv_icmp_ge (tgt := 14) hx hb dX5_isKind_7 (by decide) (fun h_3 => ?_) (fun h_3 => ?_)
      · refine lv_iconst (v := 0) hx hb dX5_isKind_14 (by decide) ?_
        have hJ := J_1; (repeat rw [if_neg h_2] at hJ); (repeat rw [if_pos h_3] at hJ)
        first | exact hJ ls (lv_sub hl [0] rfl) | ((repeat rw [if_neg h_2] at hl); (repeat rw [if_pos h_3] at hl); (repeat rw [if_neg h_2]); (repeat rw [if_pos h_3]); exact hJ ls (lv_sub hl [0] rfl))
      · refine lv_iconst (v := 1) hx hb dX5_isKind_10 (by decide) ?_
        refine lv_goto (tgt := 15) hx hb dX5_isKind_11 (by decide) ?_
        have hJ := J_1; (repeat rw [if_neg h_2] at hJ); (repeat rw [if_neg h_3] at hJ)
        first | exact hJ ls (lv_sub hl [0] rfl) | ((repeat rw [if_neg h_2] at hl); (repeat rw [if_neg h_3] at hl); (repeat rw [if_neg h_2]); (repeat rw [if_neg h_3]); exact hJ ls (lv_sub hl [0] rfl))
def f_isPart (part : Int32) : Bool := (if part = 0 then true else if part = 1 then true else false)
set_option maxHeartbeats 4000000 in
set_option maxRecDepth 100000 in
theorem c_X5_isPart (l : Launch) (G : GG) (part : Int32)  : Met l yX5_isPart wsX5_isPart { frames := 0, cells := 0, slots := 0, locals := 0 } (roP G [.int part] (fun H => True)) (roQ (some (.int (b2i (f_isPart part))))) 0 0 nF := by
  refine Met.ofW (cc := cX5_isPart) (maxL := 1) (ret := (some .boolean)) (by decide) rfl ?_
  intro p e s m args below meth c s₁ Bd hml hv
  obtain ⟨rfl, hK, hB⟩ := hv
  have hx := Bd.exec
  have hb := Bd.bytes
  have hr := Bd.returns
  have hts := atoms_spec (ws := wsX5_isPart) Bd.pre
  have hown : s.vm.findClass RX5 = some m.cls := findClass_of_methodNamed Bd.named
  have hlocks := Bd.notSynchronized
  have hC : CallFix p m c cX5_isPart 1 s _ wsX5_isPart RX5 := ⟨hx, hb, hml, hown, hts⟩
  have hl := lv_entry ([.int part]) (n := 1) (Nat.le_of_ble_eq_true rfl)
  rw [lg_entry_eq]
  generalize (lg_sl ([.int part]) ++ List.replicate (1 - (lg_sl ([.int part])).length) Slot.unset).toArray = ls at hl ⊢
  have hl : lv_has ls 1 [(0, .int part)] := hl
  refine lv_iload_n hx hb dX5_isPart_0 rfl (lv_at hl 0 rfl) ?_
  refine join_at (nL := 1) 14 [(0, .int part)] [.int (b2i (if part = 0 then true else if part = 1 then true else false))] (fun ls hl => ?_) (fun J_1 => ?_)
  · exact ro_zret hx hb hr hlocks dX5_isPart_14 rfl
  · refine lv_if_eq (tgt := 9) hx hb dX5_isPart_1 (by decide) (fun h_2 => ?_) (fun h_2 => ?_)
    · refine lv_iconst (v := 1) hx hb dX5_isPart_9 (by decide) ?_
      refine lv_goto (tgt := 14) hx hb dX5_isPart_10 (by decide) ?_
      have hJ := J_1; (repeat rw [if_pos h_2] at hJ)
      first | exact hJ ls (lv_sub hl [0] rfl) | ((repeat rw [if_pos h_2] at hl); (repeat rw [if_pos h_2]); exact hJ ls (lv_sub hl [0] rfl))
    · refine lv_iload_n hx hb dX5_isPart_4 rfl (lv_at hl 0 rfl) ?_
      refine lv_iconst (v := 1) hx hb dX5_isPart_5 (by decide) ?_
      refine lv_icmp_ne (tgt := 13) hx hb dX5_isPart_6 (by decide) (fun h_3 => ?_) (fun h_3 => ?_)
      · refine lv_iconst (v := 0) hx hb dX5_isPart_13 (by decide) ?_
        have hJ := J_1; (repeat rw [if_neg h_2] at hJ); (repeat rw [if_neg h_3] at hJ)
        first | exact hJ ls (lv_sub hl [0] rfl) | ((repeat rw [if_neg h_2] at hl); (repeat rw [if_neg h_3] at hl); (repeat rw [if_neg h_2]); (repeat rw [if_neg h_3]); exact hJ ls (lv_sub hl [0] rfl))
      · refine lv_iconst (v := 1) hx hb dX5_isPart_9 (by decide) ?_
        refine lv_goto (tgt := 14) hx hb dX5_isPart_10 (by decide) ?_
        have hJ := J_1; (repeat rw [if_neg h_2] at hJ); (repeat rw [if_pos h_3] at hJ)
        first | exact hJ ls (lv_sub hl [0] rfl) | ((repeat rw [if_neg h_2] at hl); (repeat rw [if_pos h_3] at hl); (repeat rw [if_neg h_2]); (repeat rw [if_pos h_3]); exact hJ ls (lv_sub hl [0] rfl))
theorem isStuff_in {k : Int32} (h : f_isStuff k = true) : vp_in k 4 := by
  unfold f_isStuff at h
  split at h
  · cases h
  · split at h
    · cases h
    · rename_i h1 h2
      exact vp_of (n := 4) rfl h1 h2 (by decide)
def g_addStep (x : LawT) (sp : Int32) : LawT := if 120 ≤ nI (lSc x) then x else lSetSt x (upd (lSt x) (nI (lSc x)).toNatClampNeg sp) (lSc x + 1)
theorem sc_lt {n : Nat} (h : ¬ (120 : Int32) ≤ nI n) (h2 : n ≤ 120) : n + 1 ≤ 120 := by
  rcases Nat.lt_or_ge n 120 with q | q
  · exact q
  · exact absurd (nI_le (a := 120) q (by omega)) h
theorem i_X1_addStep_X1 : ∀ w ∈ wsX10, w ∈ wsX1_addStep := fun _ h => List.mem_cons_of_mem _ (List.mem_append_right _ h)
theorem k_X1_addStep_fieldLink_34 : Cond.fieldLink RX1 34 "SameWater$Law" "stepCount" "I" ∈ wsX1_addStep := by decide +kernel
theorem k_X1_addStep_fieldLink_24 : Cond.fieldLink RX1 24 "SameWater$Law" "steps" "[I" ∈ wsX1_addStep := by decide +kernel
set_option maxHeartbeats 4000000 in
set_option maxRecDepth 100000 in
theorem c_X1_addStep (l : Launch) (G : GG) (A : Nat → Nat) (x : LawT) (sp : Int32) (hne : lwN A) : Met l yX1_addStep wsX1_addStep { frames := 0, cells := 0, slots := 0, locals := 0 } (roP G [.ref (A 0), .int sp] (fun H => LwAt G A x H)) (wrQ none (fun H => LwAt G A (g_addStep x sp) H) (lwA A)) 0 0 (lwA A) := by
  refine Met.ofW (cc := cX1_addStep) (maxL := 2) (ret := none) (by decide) rfl ?_
  intro p e s m args below meth c s₁ Bd hml hv
  obtain ⟨rfl, hK, hB⟩ := hv
  have hx := Bd.exec
  have hb := Bd.bytes
  have hr := Bd.returns
  have hts := atoms_spec (ws := wsX1_addStep) Bd.pre
  have hown : s.vm.findClass RX1 = some m.cls := findClass_of_methodNamed Bd.named
  have hlocks := Bd.notSynchronized
  have hC : CallFix p m c cX1_addStep 2 s _ wsX1_addStep RX1 := ⟨hx, hb, hml, hown, hts⟩
  have hl := lv_entry ([.ref (A 0), .int sp]) (n := 2) (Nat.le_of_ble_eq_true rfl)
  rw [lg_entry_eq]
  generalize (lg_sl ([.ref (A 0), .int sp]) ++ List.replicate (2 - (lg_sl ([.ref (A 0), .int sp])).length) Slot.unset).toArray = ls at hl ⊢
  have hl : lv_has ls 2 [(0, .ref (A 0)), (1, .int sp)] := hl
  have hS : wS (lwA A) s.heap s.heap [] := wS.rf
  obtain ⟨f_0, f_1, f_r, f_4, w1⟩ := hB
  refine lv_aload_n hx hb dX1_addStep_0 rfl (lv_at hl 0 rfl) ?_
  refine r_get (C := RX1) (T := TX1) (N := 8) hx hb hts i_X1_addStep_X1 hown hK f_0 rfl 7 (by decide) k_X1_addStep_fieldLink_34 rfl rfl dX1_addStep_1 ?_
  refine lv_bipush (v := 120) hx hb dX1_addStep_4 (by decide +kernel) ?_
  refine lv_icmp_ge (tgt := 29) hx hb dX1_addStep_6 (by decide) (fun h_1 => ?_) (fun h_1 => ?_)
  · exact wr_vret hx hb hr hlocks dX1_addStep_29 hS (by (try unfold g_addStep); (repeat rw [if_pos h_1]); exact ⟨f_0, f_1, f_r, f_4, w1⟩)
  · refine lv_aload_n hx hb dX1_addStep_9 rfl (lv_at hl 0 rfl) ?_
    refine r_get (C := RX1) (T := TX1) (N := 8) hx hb hts i_X1_addStep_X1 hown hK f_0 rfl 6 (by decide) k_X1_addStep_fieldLink_24 rfl rfl dX1_addStep_10 ?_
    refine lv_aload_n hx hb dX1_addStep_13 rfl (lv_at hl 0 rfl) ?_
    refine r_get (C := RX1) (T := TX1) (N := 8) hx hb hts i_X1_addStep_X1 hown hK f_0 rfl 7 (by decide) k_X1_addStep_fieldLink_34 rfl rfl dX1_addStep_14 ?_
    refine lv_iload_n hx hb dX1_addStep_17 rfl (lv_at hl 1 rfl) ?_
    refine w_iast hx hb hK f_4 hS (lwA.in A 4 (by decide)) (vp_in_nI (Nat.lt_of_succ_le (sc_lt h_1 w1)) (by decide)) dX1_addStep_18 (fun H locs hn hq hS => ?_)
    have f_4 : iA G 1 (A 4) 120 (upd (lSt x) (nI (lSc x)).toNatClampNeg sp) H := hn
    have f_0 := f_0.kept (hq _ (hne 0 4 (by decide) (by decide) (by decide)))
    have f_1 := f_1.kept (hq _ (hne 1 4 (by decide) (by decide) (by decide)))
    have f_r := f_r.kept (hq _ (hne 2 4 (by decide) (by decide) (by decide))) (hq _ (hne 3 4 (by decide) (by decide) (by decide)))
    refine lv_aload_n hx hb dX1_addStep_19 rfl (lv_at hl 0 rfl) ?_
    refine lv_dup hx hb dX1_addStep_20 rfl ?_
    refine r_get (C := RX1) (T := TX1) (N := 8) hx hb hts i_X1_addStep_X1 hown hK f_0 rfl 7 (by decide) k_X1_addStep_fieldLink_34 rfl rfl dX1_addStep_21 ?_
    refine lv_iconst (v := 1) hx hb dX1_addStep_24 (by decide) ?_
    refine lv_iadd hx hb dX1_addStep_25 ?_
    refine w_put (C := RX1) (T := TX1) (N := 8) hx hb hts i_X1_addStep_X1 tyX1 tyX1_ok nmX1 hown hK f_0 hS (lwA.in A 0 (by decide)) rfl 7 (by decide) k_X1_addStep_fieldLink_34 rfl rfl rfl rfl (Nat.le_of_ble_eq_true rfl) dX1_addStep_26 (fun H locs hn hq hS => ?_)
    have f_0 : oA G (A 0) 1 [.int (lNum x), .int (lKind x), .int (lV x), .int (lSlip x), .ref (A 1), .ref (A 2), .ref (A 4), .int ((nI (lSc x)) + 1)] H := hn
    have f_1 := f_1.kept (hq _ (hne 1 0 (by decide) (by decide) (by decide)))
    have f_4 := f_4.kept (hq _ (hne 4 0 (by decide) (by decide) (by decide)))
    have f_r := f_r.kept (hq _ (hne 2 0 (by decide) (by decide) (by decide))) (hq _ (hne 3 0 (by decide) (by decide) (by decide)))
    exact wr_vret hx hb hr hlocks dX1_addStep_29 hS (by (try unfold g_addStep); (repeat rw [if_neg h_1]); exact ⟨by rw [show lSc (lSetSt x (upd (lSt x) (nI (lSc x)).toNatClampNeg sp) (lSc x + 1)) = lSc x + 1 from rfl, nI_succ]; exact f_0, f_1, f_r, f_4, sc_lt h_1 w1⟩)
def g_putFrom (x : LawT) (stuff nn : Int32) : LawT := if f_isStuff stuff = true then lSetFrom x (upd (lFrom x) stuff.toNatClampNeg nn) else x
theorem k_X1_putFrom_nini_37 : Cond.initialized RX5 ∈ wsX1_putFrom := by decide +kernel
theorem k_X1_putFrom_nsta_37 : Cond.static yX5_isStuff ∈ wsX1_putFrom := by decide +kernel
theorem i_X1_putFrom_X1 : ∀ w ∈ wsX10, w ∈ wsX1_putFrom := fun _ h => List.mem_cons_of_mem _ (List.mem_append_right _ h)
theorem k_X1_putFrom_fieldLink_11 : Cond.fieldLink RX1 11 "SameWater$Law" "from" "[I" ∈ wsX1_putFrom := by decide +kernel
theorem kd_X5_isStuff : yX5_isStuff.cls ≠ "java/lang/invoke/MethodHandle" ∧ yX5_isStuff.cls ≠ "java/lang/invoke/VarHandle" ∧ (parseMethodDescriptor yX5_isStuff.desc).map (fun d => d.parameters.length) = some 1 := by decide +kernel
set_option maxHeartbeats 4000000 in
set_option maxRecDepth 100000 in
theorem c_X1_putFrom (l : Launch) (G : GG) (A : Nat → Nat) (x : LawT) (stuff : Int32) (nn : Int32) (hne : lwN A) : Met l yX1_putFrom wsX1_putFrom { frames := 1, cells := 0, slots := 0, locals := 20 } (roP G [.ref (A 0), .int stuff, .int nn] (fun H => LwAt G A x H)) (wrQ none (fun H => LwAt G A (g_putFrom x stuff nn) H) (lwA A)) 0 0 (lwA A) := by
  refine Met.ofW (cc := cX1_putFrom) (maxL := 3) (ret := none) (by decide) rfl ?_
  intro p e s m args below meth c s₁ Bd hml hv
  obtain ⟨rfl, hK, hB⟩ := hv
  have hx := Bd.exec
  have hb := Bd.bytes
  have hr := Bd.returns
  have hts := atoms_spec (ws := wsX1_putFrom) Bd.pre
  have hown : s.vm.findClass RX1 = some m.cls := findClass_of_methodNamed Bd.named
  have hlocks := Bd.notSynchronized
  have hC : CallFix p m c cX1_putFrom 3 s _ wsX1_putFrom RX1 := ⟨hx, hb, hml, hown, hts⟩
  have hl := lv_entry ([.ref (A 0), .int stuff, .int nn]) (n := 3) (Nat.le_of_ble_eq_true rfl)
  rw [lg_entry_eq]
  generalize (lg_sl ([.ref (A 0), .int stuff, .int nn]) ++ List.replicate (3 - (lg_sl ([.ref (A 0), .int stuff, .int nn])).length) Slot.unset).toArray = ls at hl ⊢
  have hl : lv_has ls 3 [(0, .ref (A 0)), (1, .int stuff), (2, .int nn)] := hl
  have hS : wS (lwA A) s.heap s.heap [] := wS.rf
  obtain ⟨f_0, f_1, f_r, f_4, w1⟩ := hB
  refine lv_iload_n hx hb dX1_putFrom_0 rfl (lv_at hl 1 rfl) ?_
  refine ro_call (va_runSN (As := [.int stuff]) (rest := []) hC (c_X5_isStuff l G stuff) ⟨va_cnB 1 hts gX1_putFrom_X5_isStuff_n37 rfl rfl rfl (hK.2 _ (List.mem_of_getElem? (i := 4) rfl)) (hts _ k_X1_putFrom_nini_37) kd_X5_isStuff ⟨Nat.le_of_ble_eq_true rfl, Nat.le_of_ble_eq_true rfl⟩, hts _ k_X1_putFrom_nsta_37, trivial⟩ (ro_preS hK trivial) rfl rfl hl.1 rfl (lv_room (Nat.le_of_ble_eq_true rfl)) dX1_putFrom_1 ⟨Nat.zero_le _, Nat.zero_le _⟩) ?_
  refine bz_eq (tgt := 14) hx hb dX1_putFrom_4 (by decide) (fun h_1 => ?_) (fun h_1 => ?_)
  · exact wr_vret hx hb hr hlocks dX1_putFrom_14 hS (by (try unfold g_putFrom); (repeat rw [if_neg h_1]); exact ⟨f_0, f_1, f_r, f_4, w1⟩)
  · refine lv_aload_n hx hb dX1_putFrom_7 rfl (lv_at hl 0 rfl) ?_
    refine r_get (C := RX1) (T := TX1) (N := 8) hx hb hts i_X1_putFrom_X1 hown hK f_0 rfl 4 (by decide) k_X1_putFrom_fieldLink_11 rfl rfl dX1_putFrom_8 ?_
    refine lv_iload_n hx hb dX1_putFrom_11 rfl (lv_at hl 1 rfl) ?_
    refine lv_iload_n hx hb dX1_putFrom_12 rfl (lv_at hl 2 rfl) ?_
    refine w_iast hx hb hK f_1 hS (lwA.in A 1 (by decide)) (isStuff_in h_1) dX1_putFrom_13 (fun H locs hn hq hS => ?_)
    have f_1 : iA G 1 (A 1) 4 (upd (lFrom x) stuff.toNatClampNeg nn) H := hn
    have f_0 := f_0.kept (hq _ (hne 0 1 (by decide) (by decide) (by decide)))
    have f_4 := f_4.kept (hq _ (hne 4 1 (by decide) (by decide) (by decide)))
    have f_r := f_r.kept (hq _ (hne 2 1 (by decide) (by decide) (by decide))) (hq _ (hne 3 1 (by decide) (by decide) (by decide)))
    exact wr_vret hx hb hr hlocks dX1_putFrom_14 hS (by (try unfold g_putFrom); (repeat rw [if_pos h_1]); exact ⟨f_0, f_1, f_r, f_4, w1⟩)
def g_clear (x : LawT) : LawT := (lNum x, lKind x, lV x, 0, upd (upd (upd (upd (lFrom x) (0 : Int32).toNatClampNeg 84) (1 : Int32).toNatClampNeg 84) (2 : Int32).toNatClampNeg 84) (3 : Int32).toNatClampNeg 84, (0, (lOv x).2), lSt x, 0)
theorem i_X1_clear_X1 : ∀ w ∈ wsX10, w ∈ wsX1_clear := fun _ h => List.mem_cons_of_mem _ (List.mem_append_left _ (List.mem_append_right _ h))
theorem k_X1_clear_fieldLink_27 : Cond.fieldLink RX1 27 "SameWater$Law" "slip" "I" ∈ wsX1_clear := by decide +kernel
theorem k_X1_clear_fieldLink_20 : Cond.fieldLink RX1 20 "SameWater$Law" "overs" "LSameWater$Rows;" ∈ wsX1_clear := by decide +kernel
theorem i_X1_clear_X2 : ∀ w ∈ wsX20, w ∈ wsX1_clear := fun _ h => List.mem_cons_of_mem _ (List.mem_append_right _ h)
theorem k_X1_clear_fieldLink_31 : Cond.fieldLink RX1 31 "SameWater$Rows" "size" "I" ∈ wsX1_clear := by decide +kernel
theorem k_X1_clear_fieldLink_34 : Cond.fieldLink RX1 34 "SameWater$Law" "stepCount" "I" ∈ wsX1_clear := by decide +kernel
theorem k_X1_clear_fieldLink_11 : Cond.fieldLink RX1 11 "SameWater$Law" "from" "[I" ∈ wsX1_clear := by decide +kernel
set_option maxHeartbeats 4000000 in
set_option maxRecDepth 100000 in
theorem c_X1_clear (l : Launch) (G : GG) (A : Nat → Nat) (x : LawT) (hne : lwN A) : Met l yX1_clear wsX1_clear { frames := 0, cells := 0, slots := 0, locals := 0 } (roP G [.ref (A 0)] (fun H => LwAt G A x H)) (wrQ none (fun H => LwAt G A (g_clear x) H) (lwA A)) 0 0 (lwA A) := by
  refine Met.ofW (cc := cX1_clear) (maxL := 2) (ret := none) (by decide) rfl ?_
  intro p e s m args below meth c s₁ Bd hml hv
  obtain ⟨rfl, hK, hB⟩ := hv
  have hx := Bd.exec
  have hb := Bd.bytes
  have hr := Bd.returns
  have hts := atoms_spec (ws := wsX1_clear) Bd.pre
  have hown : s.vm.findClass RX1 = some m.cls := findClass_of_methodNamed Bd.named
  have hlocks := Bd.notSynchronized
  have hC : CallFix p m c cX1_clear 2 s _ wsX1_clear RX1 := ⟨hx, hb, hml, hown, hts⟩
  have hl := lv_entry ([.ref (A 0)]) (n := 2) (Nat.le_of_ble_eq_true rfl)
  rw [lg_entry_eq]
  generalize (lg_sl ([.ref (A 0)]) ++ List.replicate (2 - (lg_sl ([.ref (A 0)])).length) Slot.unset).toArray = ls at hl ⊢
  have hl : lv_has ls 2 [(0, .ref (A 0))] := hl
  have hS : wS (lwA A) s.heap s.heap [] := wS.rf
  obtain ⟨f_0, f_1, f_r, f_4, w1⟩ := hB
  refine lv_aload_n hx hb dX1_clear_0 rfl (lv_at hl 0 rfl) ?_
  refine lv_iconst (v := 0) hx hb dX1_clear_1 (by decide) ?_
  refine w_put (C := RX1) (T := TX1) (N := 8) hx hb hts i_X1_clear_X1 tyX1 tyX1_ok nmX1 hown hK f_0 hS (lwA.in A 0 (by decide)) rfl 3 (by decide) k_X1_clear_fieldLink_27 rfl rfl rfl rfl (Nat.le_of_ble_eq_true rfl) dX1_clear_2 (fun H locs hn hq hS => ?_)
  have f_0 : oA G (A 0) 1 [.int (lNum x), .int (lKind x), .int (lV x), .int 0, .ref (A 1), .ref (A 2), .ref (A 4), .int (nI (lSc x))] H := hn
  have f_1 := f_1.kept (hq _ (hne 1 0 (by decide) (by decide) (by decide)))
  have f_4 := f_4.kept (hq _ (hne 4 0 (by decide) (by decide) (by decide)))
  have f_r := f_r.kept (hq _ (hne 2 0 (by decide) (by decide) (by decide))) (hq _ (hne 3 0 (by decide) (by decide) (by decide)))
  refine lv_aload_n hx hb dX1_clear_5 rfl (lv_at hl 0 rfl) ?_
  refine r_get (C := RX1) (T := TX1) (N := 8) hx hb hts i_X1_clear_X1 hown hK f_0 rfl 5 (by decide) k_X1_clear_fieldLink_20 rfl rfl dX1_clear_6 ?_
  refine lv_iconst (v := 0) hx hb dX1_clear_9 (by decide) ?_
  refine w_put (C := RX2) (T := TX2) (N := 4) hx hb hts i_X1_clear_X2 tyX2 tyX2_ok nmX2 hown hK f_r.1 hS (lwA.in A 2 (by decide)) rfl 3 (by decide) k_X1_clear_fieldLink_31 rfl rfl rfl rfl (Nat.le_of_ble_eq_true rfl) dX1_clear_10 (fun H locs hn hq hS => ?_)
  have f_r : RwAt G (A 2) (A 3) 10 3 (0, (lOv x).2) H := ⟨hn, f_r.2.1.kept (hq _ (hne 3 2 (by decide) (by decide) (by decide))), Nat.zero_le _, f_r.2.2.2⟩
  have f_0 := f_0.kept (hq _ (hne 0 2 (by decide) (by decide) (by decide)))
  have f_1 := f_1.kept (hq _ (hne 1 2 (by decide) (by decide) (by decide)))
  have f_4 := f_4.kept (hq _ (hne 4 2 (by decide) (by decide) (by decide)))
  refine lv_aload_n hx hb dX1_clear_13 rfl (lv_at hl 0 rfl) ?_
  refine lv_iconst (v := 0) hx hb dX1_clear_14 (by decide) ?_
  refine w_put (C := RX1) (T := TX1) (N := 8) hx hb hts i_X1_clear_X1 tyX1 tyX1_ok nmX1 hown hK f_0 hS (lwA.in A 0 (by decide)) rfl 7 (by decide) k_X1_clear_fieldLink_34 rfl rfl rfl rfl (Nat.le_of_ble_eq_true rfl) dX1_clear_15 (fun H locs hn hq hS => ?_)
  have f_0 : oA G (A 0) 1 [.int (lNum x), .int (lKind x), .int (lV x), .int 0, .ref (A 1), .ref (A 2), .ref (A 4), .int 0] H := hn
  have f_1 := f_1.kept (hq _ (hne 1 0 (by decide) (by decide) (by decide)))
  have f_4 := f_4.kept (hq _ (hne 4 0 (by decide) (by decide) (by decide)))
  have f_r := f_r.kept (hq _ (hne 2 0 (by decide) (by decide) (by decide))) (hq _ (hne 3 0 (by decide) (by decide) (by decide)))
  refine lv_iconst (v := 0) hx hb dX1_clear_18 (by decide) ?_
  refine lv_istore_n (lv' := [(1, .int 0), (0, .ref (A 0))]) hx hb dX1_clear_19 rfl hl (by decide) rfl (fun ls hl => ?_)
  refine lv_iload_n hx hb dX1_clear_20 rfl (lv_at hl 0 rfl) ?_
  refine lv_iconst (v := 4) hx hb dX1_clear_21 (by decide) ?_
  refine lv_icmp_ge (tgt := 39) hx hb dX1_clear_22 (by decide) (fun h_1 => ?_) (fun h_1 => ?_)
  · exact absurd h_1 (by decide)
  · refine lv_aload_n hx hb dX1_clear_25 rfl (lv_at hl 1 rfl) ?_
    refine r_get (C := RX1) (T := TX1) (N := 8) hx hb hts i_X1_clear_X1 hown hK f_0 rfl 4 (by decide) k_X1_clear_fieldLink_11 rfl rfl dX1_clear_26 ?_
    refine lv_iload_n hx hb dX1_clear_29 rfl (lv_at hl 0 rfl) ?_
    refine lv_bipush (v := 84) hx hb dX1_clear_30 (by decide +kernel) ?_
    refine w_iast hx hb hK f_1 hS (lwA.in A 1 (by decide)) (vp_in_nI (n := 0) (by decide) (by decide)) dX1_clear_32 (fun H locs hn hq hS => ?_)
    have f_1 : iA G 1 (A 1) 4 (upd (lFrom x) (0 : Int32).toNatClampNeg 84) H := hn
    have f_0 := f_0.kept (hq _ (hne 0 1 (by decide) (by decide) (by decide)))
    have f_4 := f_4.kept (hq _ (hne 4 1 (by decide) (by decide) (by decide)))
    have f_r := f_r.kept (hq _ (hne 2 1 (by decide) (by decide) (by decide))) (hq _ (hne 3 1 (by decide) (by decide) (by decide)))
    refine lv_iinc (v := 1) (lv' := [(1, .int 1), (0, .ref (A 0))]) hx hb dX1_clear_33 hl (k := 0) rfl (by decide) (by decide) rfl (fun ls hl => ?_)
    refine lv_goto (tgt := 20) hx hb dX1_clear_36 (by decide) ?_
    refine lv_iload_n hx hb dX1_clear_20 rfl (lv_at hl 0 rfl) ?_
    refine lv_iconst (v := 4) hx hb dX1_clear_21 (by decide) ?_
    refine lv_icmp_ge (tgt := 39) hx hb dX1_clear_22 (by decide) (fun h_2 => ?_) (fun h_2 => ?_)
    · exact absurd h_2 (by decide)
    · refine lv_aload_n hx hb dX1_clear_25 rfl (lv_at hl 1 rfl) ?_
      refine r_get (C := RX1) (T := TX1) (N := 8) hx hb hts i_X1_clear_X1 hown hK f_0 rfl 4 (by decide) k_X1_clear_fieldLink_11 rfl rfl dX1_clear_26 ?_
      refine lv_iload_n hx hb dX1_clear_29 rfl (lv_at hl 0 rfl) ?_
      refine lv_bipush (v := 84) hx hb dX1_clear_30 (by decide +kernel) ?_
      refine w_iast hx hb hK f_1 hS (lwA.in A 1 (by decide)) (vp_in_nI (n := 1) (by decide) (by decide)) dX1_clear_32 (fun H locs hn hq hS => ?_)
      have f_1 : iA G 1 (A 1) 4 (upd (upd (lFrom x) (0 : Int32).toNatClampNeg 84) (1 : Int32).toNatClampNeg 84) H := hn
      have f_0 := f_0.kept (hq _ (hne 0 1 (by decide) (by decide) (by decide)))
      have f_4 := f_4.kept (hq _ (hne 4 1 (by decide) (by decide) (by decide)))
      have f_r := f_r.kept (hq _ (hne 2 1 (by decide) (by decide) (by decide))) (hq _ (hne 3 1 (by decide) (by decide) (by decide)))
      refine lv_iinc (v := 2) (lv' := [(1, .int 2), (0, .ref (A 0))]) hx hb dX1_clear_33 hl (k := 0) rfl (by decide) (by decide) rfl (fun ls hl => ?_)
      refine lv_goto (tgt := 20) hx hb dX1_clear_36 (by decide) ?_
      refine lv_iload_n hx hb dX1_clear_20 rfl (lv_at hl 0 rfl) ?_
      refine lv_iconst (v := 4) hx hb dX1_clear_21 (by decide) ?_
      refine lv_icmp_ge (tgt := 39) hx hb dX1_clear_22 (by decide) (fun h_3 => ?_) (fun h_3 => ?_)
      · exact absurd h_3 (by decide)
      · refine lv_aload_n hx hb dX1_clear_25 rfl (lv_at hl 1 rfl) ?_
        refine r_get (C := RX1) (T := TX1) (N := 8) hx hb hts i_X1_clear_X1 hown hK f_0 rfl 4 (by decide) k_X1_clear_fieldLink_11 rfl rfl dX1_clear_26 ?_
        refine lv_iload_n hx hb dX1_clear_29 rfl (lv_at hl 0 rfl) ?_
        refine lv_bipush (v := 84) hx hb dX1_clear_30 (by decide +kernel) ?_
        refine w_iast hx hb hK f_1 hS (lwA.in A 1 (by decide)) (vp_in_nI (n := 2) (by decide) (by decide)) dX1_clear_32 (fun H locs hn hq hS => ?_)
        have f_1 : iA G 1 (A 1) 4 (upd (upd (upd (lFrom x) (0 : Int32).toNatClampNeg 84) (1 : Int32).toNatClampNeg 84) (2 : Int32).toNatClampNeg 84) H := hn
        have f_0 := f_0.kept (hq _ (hne 0 1 (by decide) (by decide) (by decide)))
        have f_4 := f_4.kept (hq _ (hne 4 1 (by decide) (by decide) (by decide)))
        have f_r := f_r.kept (hq _ (hne 2 1 (by decide) (by decide) (by decide))) (hq _ (hne 3 1 (by decide) (by decide) (by decide)))
        refine lv_iinc (v := 3) (lv' := [(1, .int 3), (0, .ref (A 0))]) hx hb dX1_clear_33 hl (k := 0) rfl (by decide) (by decide) rfl (fun ls hl => ?_)
        refine lv_goto (tgt := 20) hx hb dX1_clear_36 (by decide) ?_
        refine lv_iload_n hx hb dX1_clear_20 rfl (lv_at hl 0 rfl) ?_
        refine lv_iconst (v := 4) hx hb dX1_clear_21 (by decide) ?_
        refine lv_icmp_ge (tgt := 39) hx hb dX1_clear_22 (by decide) (fun h_4 => ?_) (fun h_4 => ?_)
        · exact absurd h_4 (by decide)
        · refine lv_aload_n hx hb dX1_clear_25 rfl (lv_at hl 1 rfl) ?_
          refine r_get (C := RX1) (T := TX1) (N := 8) hx hb hts i_X1_clear_X1 hown hK f_0 rfl 4 (by decide) k_X1_clear_fieldLink_11 rfl rfl dX1_clear_26 ?_
          refine lv_iload_n hx hb dX1_clear_29 rfl (lv_at hl 0 rfl) ?_
          refine lv_bipush (v := 84) hx hb dX1_clear_30 (by decide +kernel) ?_
          refine w_iast hx hb hK f_1 hS (lwA.in A 1 (by decide)) (vp_in_nI (n := 3) (by decide) (by decide)) dX1_clear_32 (fun H locs hn hq hS => ?_)
          have f_1 : iA G 1 (A 1) 4 (upd (upd (upd (upd (lFrom x) (0 : Int32).toNatClampNeg 84) (1 : Int32).toNatClampNeg 84) (2 : Int32).toNatClampNeg 84) (3 : Int32).toNatClampNeg 84) H := hn
          have f_0 := f_0.kept (hq _ (hne 0 1 (by decide) (by decide) (by decide)))
          have f_4 := f_4.kept (hq _ (hne 4 1 (by decide) (by decide) (by decide)))
          have f_r := f_r.kept (hq _ (hne 2 1 (by decide) (by decide) (by decide))) (hq _ (hne 3 1 (by decide) (by decide) (by decide)))
          refine lv_iinc (v := 4) (lv' := [(1, .int 4), (0, .ref (A 0))]) hx hb dX1_clear_33 hl (k := 0) rfl (by decide) (by decide) rfl (fun ls hl => ?_)
          refine lv_goto (tgt := 20) hx hb dX1_clear_36 (by decide) ?_
          refine lv_iload_n hx hb dX1_clear_20 rfl (lv_at hl 0 rfl) ?_
          refine lv_iconst (v := 4) hx hb dX1_clear_21 (by decide) ?_
          refine lv_icmp_ge (tgt := 39) hx hb dX1_clear_22 (by decide) (fun h_5 => ?_) (fun h_5 => ?_)
          · exact wr_vret hx hb hr hlocks dX1_clear_39 hS (by (try unfold g_clear); (repeat rw [if_neg h_1]); (repeat rw [if_neg h_2]); (repeat rw [if_neg h_3]); (repeat rw [if_neg h_4]); (repeat rw [if_pos h_5]); exact ⟨f_0, f_1, f_r, f_4, Nat.zero_le _⟩)
          · exact absurd (by decide) h_5
def g_addOver (x : LawT) (kk jj nn : Int32) : LawT := lSetOv x (g_put 3 (g_put 3 (g_put 3 (g_add 10 (lOv x)) (f_add 10 (lOv x)) 0 kk) (f_add 10 (lOv x)) 1 jj) (f_add 10 (lOv x)) 2 nn)
theorem i_X1_addOver_X1 : ∀ w ∈ wsX10, w ∈ wsX1_addOver := fun _ h => List.mem_cons_of_mem _ (List.mem_append_left _ (List.mem_append_right _ h))
theorem k_X1_addOver_fieldLink_20 : Cond.fieldLink RX1 20 "SameWater$Law" "overs" "LSameWater$Rows;" ∈ wsX1_addOver := by decide +kernel
theorem kd_X2_add : yX2_add.cls = RX2 ∧ yX2_add.cls ≠ "java/lang/invoke/MethodHandle" ∧ yX2_add.cls ≠ "java/lang/invoke/VarHandle" ∧ (parseMethodDescriptor yX2_add.desc).map (fun d => d.parameters.length) = some 0 := by decide +kernel
theorem kd_X2_put : yX2_put.cls = RX2 ∧ yX2_put.cls ≠ "java/lang/invoke/MethodHandle" ∧ yX2_put.cls ≠ "java/lang/invoke/VarHandle" ∧ (parseMethodDescriptor yX2_put.desc).map (fun d => d.parameters.length) = some 3 := by decide +kernel
set_option maxHeartbeats 4000000 in
set_option maxRecDepth 100000 in
theorem c_X1_addOver (l : Launch) (G : GG) (A : Nat → Nat) (x : LawT) (kk : Int32) (jj : Int32) (nn : Int32) (hne : lwN A) : Met l yX1_addOver wsX1_addOver { frames := 1, cells := 0, slots := 0, locals := 23 } (roP G [.ref (A 0), .int kk, .int jj, .int nn] (fun H => LwAt G A x H)) (wrQ none (fun H => LwAt G A (g_addOver x kk jj nn) H) (lwA A)) 0 0 (lwA A) := by
  refine Met.ofW (cc := cX1_addOver) (maxL := 5) (ret := none) (by decide) rfl ?_
  intro p e s m args below meth c s₁ Bd hml hv
  obtain ⟨rfl, hK, hB⟩ := hv
  have hx := Bd.exec
  have hb := Bd.bytes
  have hr := Bd.returns
  have hts := atoms_spec (ws := wsX1_addOver) Bd.pre
  have hown : s.vm.findClass RX1 = some m.cls := findClass_of_methodNamed Bd.named
  have hlocks := Bd.notSynchronized
  have hC : CallFix p m c cX1_addOver 5 s _ wsX1_addOver RX1 := ⟨hx, hb, hml, hown, hts⟩
  have hl := lv_entry ([.ref (A 0), .int kk, .int jj, .int nn]) (n := 5) (Nat.le_of_ble_eq_true rfl)
  rw [lg_entry_eq]
  generalize (lg_sl ([.ref (A 0), .int kk, .int jj, .int nn]) ++ List.replicate (5 - (lg_sl ([.ref (A 0), .int kk, .int jj, .int nn])).length) Slot.unset).toArray = ls at hl ⊢
  have hl : lv_has ls 5 [(0, .ref (A 0)), (1, .int kk), (2, .int jj), (3, .int nn)] := hl
  have hS : wS (lwA A) s.heap s.heap [] := wS.rf
  obtain ⟨f_0, f_1, f_r, f_4, w1⟩ := hB
  refine lv_aload_n hx hb dX1_addOver_0 rfl (lv_at hl 0 rfl) ?_
  refine r_get (C := RX1) (T := TX1) (N := 8) hx hb hts i_X1_addOver_X1 hown hK f_0 rfl 5 (by decide) k_X1_addOver_fieldLink_20 rfl rfl dX1_addOver_1 ?_
  refine wr_call (va_runV (As := []) (rest := []) hC (c_X2_add l G (A 2) (A 3) 10 3 (lOv x) (hne 2 3 (by decide) (by decide) (by decide))) (cwV 0 hts gX1_addOver_X2_add rfl rfl rfl kd_X2_add ⟨Nat.le_of_ble_eq_true rfl, Nat.le_of_ble_eq_true rfl⟩) (ro_preV hK f_r.1 rfl f_r) rfl rfl hl.1 rfl (lv_room (Nat.le_of_ble_eq_true rfl)) dX1_addOver_4 ⟨Nat.zero_le _, Nat.zero_le _⟩) hS (fun q h => h ▸ lwA.in A 2 (by decide)) (fun H locs f_n hq hS => ?_)
  have f_r := f_n
  have f_0 := f_0.kept (hq _ (hne 0 2 (by decide) (by decide) (by decide)))
  have f_1 := f_1.kept (hq _ (hne 1 2 (by decide) (by decide) (by decide)))
  have f_4 := f_4.kept (hq _ (hne 4 2 (by decide) (by decide) (by decide)))
  refine lv_istore (lv' := [(4, .int (f_add 10 (lOv x))), (0, .ref (A 0)), (1, .int kk), (2, .int jj), (3, .int nn)]) hx hb dX1_addOver_7 hl (by decide) rfl (fun ls hl => ?_)
  refine lv_aload_n hx hb dX1_addOver_9 rfl (lv_at hl 1 rfl) ?_
  refine r_get (C := RX1) (T := TX1) (N := 8) hx hb hts i_X1_addOver_X1 hown hK f_0 rfl 5 (by decide) k_X1_addOver_fieldLink_20 rfl rfl dX1_addOver_10 ?_
  refine lv_iload hx hb dX1_addOver_13 (lv_at hl 0 rfl) ?_
  refine lv_iconst (v := 0) hx hb dX1_addOver_15 (by decide) ?_
  refine lv_iload_n hx hb dX1_addOver_16 rfl (lv_at hl 2 rfl) ?_
  refine wr_callv (va_runV (As := [.int (f_add 10 (lOv x)), .int 0, .int kk]) (rest := []) hC (c_X2_put l G (A 2) (A 3) 10 3 (g_add 10 (lOv x)) (f_add 10 (lOv x)) 0 kk (hne 2 3 (by decide) (by decide) (by decide))) (cwV 3 hts gX1_addOver_X2_put rfl rfl rfl kd_X2_put ⟨Nat.le_of_ble_eq_true rfl, Nat.le_of_ble_eq_true rfl⟩) (ro_preV hK f_r.1 rfl f_r) rfl rfl hl.1 rfl (lv_room (Nat.le_of_ble_eq_true rfl)) dX1_addOver_17 ⟨Nat.zero_le _, Nat.zero_le _⟩) hS (fun q h => h ▸ lwA.in A 3 (by decide)) (fun H locs f_n hq hS => ?_)
  have f_r := f_n
  have f_0 := f_0.kept (hq _ (hne 0 3 (by decide) (by decide) (by decide)))
  have f_1 := f_1.kept (hq _ (hne 1 3 (by decide) (by decide) (by decide)))
  have f_4 := f_4.kept (hq _ (hne 4 3 (by decide) (by decide) (by decide)))
  refine lv_aload_n hx hb dX1_addOver_20 rfl (lv_at hl 1 rfl) ?_
  refine r_get (C := RX1) (T := TX1) (N := 8) hx hb hts i_X1_addOver_X1 hown hK f_0 rfl 5 (by decide) k_X1_addOver_fieldLink_20 rfl rfl dX1_addOver_21 ?_
  refine lv_iload hx hb dX1_addOver_24 (lv_at hl 0 rfl) ?_
  refine lv_iconst (v := 1) hx hb dX1_addOver_26 (by decide) ?_
  refine lv_iload_n hx hb dX1_addOver_27 rfl (lv_at hl 3 rfl) ?_
  refine wr_callv (va_runV (As := [.int (f_add 10 (lOv x)), .int 1, .int jj]) (rest := []) hC (c_X2_put l G (A 2) (A 3) 10 3 (g_put 3 (g_add 10 (lOv x)) (f_add 10 (lOv x)) 0 kk) (f_add 10 (lOv x)) 1 jj (hne 2 3 (by decide) (by decide) (by decide))) (cwV 3 hts gX1_addOver_X2_put rfl rfl rfl kd_X2_put ⟨Nat.le_of_ble_eq_true rfl, Nat.le_of_ble_eq_true rfl⟩) (ro_preV hK f_r.1 rfl f_r) rfl rfl hl.1 rfl (lv_room (Nat.le_of_ble_eq_true rfl)) dX1_addOver_28 ⟨Nat.zero_le _, Nat.zero_le _⟩) hS (fun q h => h ▸ lwA.in A 3 (by decide)) (fun H locs f_n hq hS => ?_)
  have f_r := f_n
  have f_0 := f_0.kept (hq _ (hne 0 3 (by decide) (by decide) (by decide)))
  have f_1 := f_1.kept (hq _ (hne 1 3 (by decide) (by decide) (by decide)))
  have f_4 := f_4.kept (hq _ (hne 4 3 (by decide) (by decide) (by decide)))
  refine lv_aload_n hx hb dX1_addOver_31 rfl (lv_at hl 1 rfl) ?_
  refine r_get (C := RX1) (T := TX1) (N := 8) hx hb hts i_X1_addOver_X1 hown hK f_0 rfl 5 (by decide) k_X1_addOver_fieldLink_20 rfl rfl dX1_addOver_32 ?_
  refine lv_iload hx hb dX1_addOver_35 (lv_at hl 0 rfl) ?_
  refine lv_iconst (v := 2) hx hb dX1_addOver_37 (by decide) ?_
  refine lv_iload_n hx hb dX1_addOver_38 rfl (lv_at hl 4 rfl) ?_
  refine wr_callv (va_runV (As := [.int (f_add 10 (lOv x)), .int 2, .int nn]) (rest := []) hC (c_X2_put l G (A 2) (A 3) 10 3 (g_put 3 (g_put 3 (g_add 10 (lOv x)) (f_add 10 (lOv x)) 0 kk) (f_add 10 (lOv x)) 1 jj) (f_add 10 (lOv x)) 2 nn (hne 2 3 (by decide) (by decide) (by decide))) (cwV 3 hts gX1_addOver_X2_put rfl rfl rfl kd_X2_put ⟨Nat.le_of_ble_eq_true rfl, Nat.le_of_ble_eq_true rfl⟩) (ro_preV hK f_r.1 rfl f_r) rfl rfl hl.1 rfl (lv_room (Nat.le_of_ble_eq_true rfl)) dX1_addOver_39 ⟨Nat.zero_le _, Nat.zero_le _⟩) hS (fun q h => h ▸ lwA.in A 3 (by decide)) (fun H locs f_n hq hS => ?_)
  have f_r := f_n
  have f_0 := f_0.kept (hq _ (hne 0 3 (by decide) (by decide) (by decide)))
  have f_1 := f_1.kept (hq _ (hne 1 3 (by decide) (by decide) (by decide)))
  have f_4 := f_4.kept (hq _ (hne 4 3 (by decide) (by decide) (by decide)))
  exact wr_vret hx hb hr hlocks dX1_addOver_42 hS (by (try unfold g_addOver); exact ⟨f_0, f_1, f_r, f_4, w1⟩)

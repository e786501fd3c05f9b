/-- what a reading of the tape may change, and where it stands -/
def psA (t0 : Nat) (A : Nat → Nat) : Nat → Prop := fun q => q = t0 ∨ lwA A q
def psN (t0 t1 : Nat) (A : Nat → Nat) : Prop := (∀ j, j < 5 → A j ≠ t0) ∧ ∀ j, j < 5 → A j ≠ t1
theorem psN.a0 {t0 t1 : Nat} {A : Nat → Nat} (h : psN t0 t1 A) : ¬ lwA A t0 := fun ⟨j, hj, e⟩ => h.1 j hj e.symm
theorem psN.a1 {t0 t1 : Nat} {A : Nat → Nat} (h : psN t0 t1 A) : ¬ lwA A t1 := fun ⟨j, hj, e⟩ => h.2 j hj e.symm
def PsAt (G : GG) (t0 t1 : Nat) (A : Nat → Nat) (sz : Nat) (bt : Nat → Int32) (pl : Nat) (x : LawT) (H : Heap) : Prop := TpAt G t0 t1 (sz, pl, bt) H ∧ LwAt G A x H
abbrev PF : Type := Nat → LawT → Bool × Nat × LawT
/-- a contract of a reader at a depth, for every place and law -/
def cRec (l : Launch) (G : GG) (Z : AM) (t0 t1 : Nat) (A : Nat → Nat) (sz : Nat) (bt : Nat → Int32) (y : MethodName) (ws : List Cond) (rm : Room) (op : Int32) (P : PF) : Prop := ∀ (pl : Nat) (x : LawT), Met l y ws rm (aP G Z [.ref t0, .ref (A 0), .int op] (fun H => PsAt G t0 t1 A sz bt pl x H)) (wrQ (some (.int (b2i (P pl x).1))) (fun H => PsAt G t0 t1 A sz bt (P pl x).2.1 (P pl x).2.2 H) (psA t0 A)) 0 0 (psA t0 A)
theorem cRec.at {l : Launch} {G : GG} {Z : AM} {t0 t1 : Nat} {A : Nat → Nat} {sz : Nat} {bt : Nat → Int32} {y : MethodName} {ws : List Cond} {rm : Room} {op : Int32} {P : PF} (h : cRec l G Z t0 t1 A sz bt y ws rm op P) (pl : Nat) (x : LawT) (b9 : Bool) (pl9 : Nat) (x9 : LawT) (hy9 : P pl x = (b9, pl9, x9)) : Met l y ws rm (aP G Z [.ref t0, .ref (A 0), .int op] (fun H => PsAt G t0 t1 A sz bt pl x H)) (wrQ (some (.int (b2i b9))) (fun H => PsAt G t0 t1 A sz bt pl9 x9 H) (psA t0 A)) 0 0 (psA t0 A) := by
  have h9 := h pl x
  rw [hy9] at h9
  exact h9
theorem kd_X3_readNumber : yX3_readNumber.cls = RX3 ∧ yX3_readNumber.cls ≠ "java/lang/invoke/MethodHandle" ∧ yX3_readNumber.cls ≠ "java/lang/invoke/VarHandle" ∧ (parseMethodDescriptor yX3_readNumber.desc).map (fun d => d.parameters.length) = some 0 := by decide +kernel
theorem kd_X1_putFrom : yX1_putFrom.cls = RX1 ∧ yX1_putFrom.cls ≠ "java/lang/invoke/MethodHandle" ∧ yX1_putFrom.cls ≠ "java/lang/invoke/VarHandle" ∧ (parseMethodDescriptor yX1_putFrom.desc).map (fun d => d.parameters.length) = some 2 := by decide +kernel
def q_readFrom (sz : Nat) (bt : Nat → Int32) (pl : Nat) (x : LawT) : Bool × Nat × LawT := (match q_takeOne sz bt 5 pl with | (r_0, pl_0) => if r_0 < 0 then (false, pl_0, x) else (match q_take sz bt 32 pl_0 with | (b_1, pl_1) => if b_1 = true then (match q_readNumber sz bt pl_1 with | (r_2, pl_2) => ((if r_2 < 0 then false else true), pl_2, (g_putFrom x r_0 r_2))) else (false, pl_1, x)))
set_option maxHeartbeats 4000000 in
set_option maxRecDepth 100000 in
theorem c_X3_readFrom (l : Launch) (G : GG) (Z : AM) (t0 t1 : Nat) (A : Nat → Nat) (sz : Nat) (bt : Nat → Int32) (pl : Nat) (x : LawT) (htt : t0 ≠ t1) (hNl : lwN A) (hNt : psN t0 t1 A) (hAZ : ∀ q : Nat, psA t0 A q → Z.1 q) : Met l yX3_readFrom wsX3_readFrom { frames := 6, cells := 0, slots := 0, locals := 152 } (aP G Z [.ref t0, .ref (A 0)] (fun H => PsAt G t0 t1 A sz bt pl x H)) (wrQ (some (.int (b2i ((q_readFrom sz bt pl x).1)))) (fun H => PsAt G t0 t1 A sz bt ((q_readFrom sz bt pl x).2.1) ((q_readFrom sz bt pl x).2.2) H) (psA t0 A)) 0 0 (psA t0 A) := by
  refine Met.ofW (cc := cX3_readFrom) (maxL := 4) (ret := (some .boolean)) (by decide) rfl ?_
  intro p e s m args below meth c s₁ Bd hml hv
  obtain ⟨rfl, hK, hZ, hB⟩ := hv
  have hx := Bd.exec
  have hb := Bd.bytes
  have hr := Bd.returns
  have hts := atoms_spec (ws := wsX3_readFrom) Bd.pre
  have hown : s.vm.findClass RX3 = some m.cls := findClass_of_methodNamed Bd.named
  have hlocks := Bd.notSynchronized
  have hC : CallFix p m c cX3_readFrom 4 s _ wsX3_readFrom RX3 := ⟨hx, hb, hml, hown, hts⟩
  have hl := lv_entry ([.ref t0, .ref (A 0)]) (n := 4) (Nat.le_of_ble_eq_true rfl)
  rw [lg_entry_eq]
  generalize (lg_sl ([.ref t0, .ref (A 0)]) ++ List.replicate (4 - (lg_sl ([.ref t0, .ref (A 0)])).length) Slot.unset).toArray = ls at hl ⊢
  have hl : lv_has ls 4 [(0, .ref t0), (1, .ref (A 0))] := hl
  have hS : wS (psA t0 A) s.heap s.heap [] := wS.rf
  have f_s := hB
  refine lv_aload_n hx hb dX3_readFrom_0 rfl (lv_at hl 0 rfl) ?_
  refine va_ldcS hx hb hown (hZ.2.2.2.2.2 5 (by decide)) dX3_readFrom_1 ?_
  obtain ⟨⟨r_0, pl_0⟩, hy_0⟩ : ∃ z9, q_takeOne sz bt 5 pl = z9 := ⟨_, rfl⟩
  refine wr_call (va_runV (As := [.ref (zK Z 5)]) (rest := []) hC (c2_X3_takeOne l G Z t0 t1 sz bt pl 5 htt (fun q h => hAZ q (Or.inl h)) (by decide) r_0 pl_0 hy_0) (cwV 1 hts gX3_readFrom_X3_takeOne rfl rfl rfl kd_X3_takeOne ⟨Nat.le_of_ble_eq_true rfl, Nat.le_of_ble_eq_true rfl⟩) (a_preV hK hZ f_s.1.1 rfl f_s.1) rfl rfl hl.1 rfl (lv_room (Nat.le_of_ble_eq_true rfl)) dX3_readFrom_3 ⟨Nat.zero_le _, Nat.zero_le _⟩) hS (fun q h => Or.inl h) (fun H locs f_n hq hS => ?_)
  have hZ := hZ.kept (fun a9 h9 => hq a9 (fun z9 => h9 (hAZ a9 ((fun q h => Or.inl h) a9 z9))))
  have f_s := (⟨f_n, f_s.2.kept (fun j hj => hq _ (hNt.1 j hj))⟩ : PsAt G t0 t1 A sz bt pl_0 x H)
  refine lv_istore_n (lv' := [(2, .int r_0), (0, .ref t0), (1, .ref (A 0))]) hx hb dX3_readFrom_6 rfl hl (by decide) rfl (fun ls hl => ?_)
  refine lv_iload_n hx hb dX3_readFrom_7 rfl (lv_at hl 0 rfl) ?_
  refine lv_if_lt (tgt := 20) hx hb dX3_readFrom_8 (by decide) (fun h_1 => ?_) (fun h_1 => ?_)
  · refine lv_iconst (v := 0) hx hb dX3_readFrom_20 (by decide) ?_
    have hE9 : q_readFrom sz bt pl x = (false, pl_0, x) := (by (try unfold q_readFrom); (try rw [hy_0]); (try dsimp only); (repeat rw [if_pos h_1]); first | done | rfl)
    exact wr_zret hx hb hr hlocks dX3_readFrom_21 hS (by rw [hE9]; exact f_s) (by rw [hE9]; first | done | rfl)
  · refine lv_aload_n hx hb dX3_readFrom_11 rfl (lv_at hl 1 rfl) ?_
    refine lv_bipush (v := 32) hx hb dX3_readFrom_12 (by decide +kernel) ?_
    obtain ⟨⟨b_1, pl_1⟩, hy_1⟩ : ∃ z9, q_take sz bt 32 pl_0 = z9 := ⟨_, rfl⟩
    refine wr_call (va_runV (As := [.int 32]) (rest := []) hC (c2_X3_take l G t0 t1 sz bt pl_0 32 htt b_1 pl_1 hy_1) (cwV 1 hts gX3_readFrom_X3_take rfl rfl rfl kd_X3_take ⟨Nat.le_of_ble_eq_true rfl, Nat.le_of_ble_eq_true rfl⟩) (ro_preV hK f_s.1.1 rfl f_s.1) rfl rfl hl.1 rfl (lv_room (Nat.le_of_ble_eq_true rfl)) dX3_readFrom_14 ⟨Nat.zero_le _, Nat.zero_le _⟩) hS (fun q h => Or.inl h) (fun H locs f_n hq hS => ?_)
    have hZ := hZ.kept (fun a9 h9 => hq a9 (fun z9 => h9 (hAZ a9 ((fun q h => Or.inl h) a9 z9))))
    have f_s := (⟨f_n, f_s.2.kept (fun j hj => hq _ (hNt.1 j hj))⟩ : PsAt G t0 t1 A sz bt pl_1 x H)
    refine bz_ne (tgt := 22) hx hb dX3_readFrom_17 (by decide) (fun h_2 => ?_) (fun h_2 => ?_)
    · refine lv_aload_n hx hb dX3_readFrom_22 rfl (lv_at hl 1 rfl) ?_
      obtain ⟨⟨r_2, pl_2⟩, hy_2⟩ : ∃ z9, q_readNumber sz bt pl_1 = z9 := ⟨_, rfl⟩
      refine wr_call (va_runV (As := []) (rest := []) hC (c2_X3_readNumber l G Z t0 t1 sz bt pl_1 htt (fun q h => hAZ q (Or.inl h)) r_2 pl_2 hy_2) (cwV 0 hts gX3_readFrom_X3_readNumber rfl rfl rfl kd_X3_readNumber ⟨Nat.le_of_ble_eq_true rfl, Nat.le_of_ble_eq_true rfl⟩) (a_preV hK hZ f_s.1.1 rfl f_s.1) rfl rfl hl.1 rfl (lv_room (Nat.le_of_ble_eq_true rfl)) dX3_readFrom_23 ⟨Nat.zero_le _, Nat.zero_le _⟩) hS (fun q h => Or.inl h) (fun H locs f_n hq hS => ?_)
      have hZ := hZ.kept (fun a9 h9 => hq a9 (fun z9 => h9 (hAZ a9 ((fun q h => Or.inl h) a9 z9))))
      have f_s := (⟨f_n, f_s.2.kept (fun j hj => hq _ (hNt.1 j hj))⟩ : PsAt G t0 t1 A sz bt pl_2 x H)
      refine lv_istore_n (lv' := [(3, .int r_2), (2, .int r_0), (0, .ref t0), (1, .ref (A 0))]) hx hb dX3_readFrom_26 rfl hl (by decide) rfl (fun ls hl => ?_)
      refine lv_aload_n hx hb dX3_readFrom_27 rfl (lv_at hl 3 rfl) ?_
      refine lv_iload_n hx hb dX3_readFrom_28 rfl (lv_at hl 1 rfl) ?_
      refine lv_iload_n hx hb dX3_readFrom_29 rfl (lv_at hl 0 rfl) ?_
      refine wr_callv (va_runV (As := [.int r_0, .int r_2]) (rest := []) hC (c_X1_putFrom l G A x r_0 r_2 hNl) (cwV 2 hts gX3_readFrom_X1_putFrom rfl rfl rfl kd_X1_putFrom ⟨Nat.le_of_ble_eq_true rfl, Nat.le_of_ble_eq_true rfl⟩) (ro_preV hK f_s.2.1 rfl f_s.2) rfl rfl hl.1 rfl (lv_room (Nat.le_of_ble_eq_true rfl)) dX3_readFrom_30 ⟨Nat.zero_le _, Nat.zero_le _⟩) hS (fun q h => Or.inr h) (fun H locs f_n hq hS => ?_)
      have hZ := hZ.kept (fun a9 h9 => hq a9 (fun z9 => h9 (hAZ a9 ((fun q h => Or.inr h) a9 z9))))
      have f_s := (⟨f_s.1.kept (hq _ hNt.a0) (hq _ hNt.a1), f_n⟩ : PsAt G t0 t1 A sz bt pl_2 (g_putFrom x r_0 r_2) H)
      refine lv_iload_n hx hb dX3_readFrom_33 rfl (lv_at hl 0 rfl) ?_
      refine join_wr (nL := 4) 42 [(3, .int r_2), (2, .int r_0), (0, .ref t0), (1, .ref (A 0))] [.int (b2i (if r_2 < 0 then false else true))] (fun H locs => (PsAt G t0 t1 A sz bt pl_2 (g_putFrom x r_0 r_2) H) ∧ wS (psA t0 A) s.heap H locs ∧ amK Z s H) (fun H locs hI ls hl => ?_) (fun J_3 => ?_)
      · obtain ⟨f_s, hS, hZ⟩ := hI
        have hE9 : q_readFrom sz bt pl x = ((if r_2 < 0 then false else true), pl_2, (g_putFrom x r_0 r_2)) := (by (try unfold q_readFrom); (try rw [hy_0]); (try dsimp only); (repeat rw [if_neg h_1]); (try rw [hy_1]); (try dsimp only); (repeat rw [if_pos h_2]); (try rw [hy_2]); (try dsimp only); first | done | rfl)
        exact wr_zret hx hb hr hlocks dX3_readFrom_42 hS (by rw [hE9]; exact f_s) (by rw [hE9]; first | done | rfl)
      · refine lv_if_lt (tgt := 41) hx hb dX3_readFrom_34 (by decide) (fun h_4 => ?_) (fun h_4 => ?_)
        · refine lv_iconst (v := 0) hx hb dX3_readFrom_41 (by decide) ?_
          have hJ := J_3; (repeat rw [if_pos h_4] at hJ)
          first | exact hJ _ _ ⟨f_s, hS, hZ⟩ ls (lv_sub hl [0, 1, 2, 3] rfl) | ((repeat rw [if_pos h_4] at hl); (repeat rw [if_pos h_4]); exact hJ _ _ ⟨f_s, hS, hZ⟩ ls (lv_sub hl [0, 1, 2, 3] rfl))
        · refine lv_iconst (v := 1) hx hb dX3_readFrom_37 (by decide) ?_
          refine lv_goto (tgt := 42) hx hb dX3_readFrom_38 (by decide) ?_
          have hJ := J_3; (repeat rw [if_neg h_4] at hJ)
          first | exact hJ _ _ ⟨f_s, hS, hZ⟩ ls (lv_sub hl [0, 1, 2, 3] rfl) | ((repeat rw [if_neg h_4] at hl); (repeat rw [if_neg h_4]); exact hJ _ _ ⟨f_s, hS, hZ⟩ ls (lv_sub hl [0, 1, 2, 3] rfl))
    · refine lv_iconst (v := 0) hx hb dX3_readFrom_20 (by decide) ?_
      have hE9 : q_readFrom sz bt pl x = (false, pl_1, x) := (by (try unfold q_readFrom); (try rw [hy_0]); (try dsimp only); (repeat rw [if_neg h_1]); (try rw [hy_1]); (try dsimp only); (repeat rw [if_neg h_2]); first | done | rfl)
      exact wr_zret hx hb hr hlocks dX3_readFrom_21 hS (by rw [hE9]; exact f_s) (by rw [hE9]; first | done | rfl)
theorem c2_X3_readFrom (l : Launch) (G : GG) (Z : AM) (t0 t1 : Nat) (A : Nat → Nat) (sz : Nat) (bt : Nat → Int32) (pl : Nat) (x : LawT) (htt : t0 ≠ t1) (hNl : lwN A) (hNt : psN t0 t1 A) (hAZ : ∀ q : Nat, psA t0 A q → Z.1 q) (b9 : Bool) (pl9 : Nat) (x9 : LawT) (hy9 : q_readFrom sz bt pl x = (b9, pl9, x9)) : Met l yX3_readFrom wsX3_readFrom { frames := 6, cells := 0, slots := 0, locals := 152 } (aP G Z [.ref t0, .ref (A 0)] (fun H => PsAt G t0 t1 A sz bt pl x H)) (wrQ (some (.int (b2i b9))) (fun H => PsAt G t0 t1 A sz bt pl9 x9 H) (psA t0 A)) 0 0 (psA t0 A) := by
  have h9 := c_X3_readFrom l G Z t0 t1 A sz bt pl x htt hNl hNt hAZ
  rw [hy9] at h9
  exact h9
theorem kd_X1_addOver : yX1_addOver.cls = RX1 ∧ yX1_addOver.cls ≠ "java/lang/invoke/MethodHandle" ∧ yX1_addOver.cls ≠ "java/lang/invoke/VarHandle" ∧ (parseMethodDescriptor yX1_addOver.desc).map (fun d => d.parameters.length) = some 3 := by decide +kernel
def q_readOver (sz : Nat) (bt : Nat → Int32) (pl : Nat) (x : LawT) : Bool × Nat × LawT := (match q_takeOne sz bt 5 pl with | (r_0, pl_0) => if r_0 < 0 then (false, pl_0, x) else (match q_take sz bt 32 pl_0 with | (b_1, pl_1) => if b_1 = true then (match q_takeOne sz bt 5 pl_1 with | (r_2, pl_2) => if r_2 < 0 then (false, pl_2, x) else (match q_take sz bt 32 pl_2 with | (b_3, pl_3) => if b_3 = true then (match q_readNumber sz bt pl_3 with | (r_4, pl_4) => ((if r_4 < 0 then false else true), pl_4, (g_addOver x r_0 r_2 r_4))) else (false, pl_3, x))) else (false, pl_1, x)))
set_option maxHeartbeats 4000000 in
set_option maxRecDepth 100000 in
theorem c_X3_readOver (l : Launch) (G : GG) (Z : AM) (t0 t1 : Nat) (A : Nat → Nat) (sz : Nat) (bt : Nat → Int32) (pl : Nat) (x : LawT) (htt : t0 ≠ t1) (hNl : lwN A) (hNt : psN t0 t1 A) (hAZ : ∀ q : Nat, psA t0 A q → Z.1 q) : Met l yX3_readOver wsX3_readOver { frames := 6, cells := 0, slots := 0, locals := 152 } (aP G Z [.ref t0, .ref (A 0)] (fun H => PsAt G t0 t1 A sz bt pl x H)) (wrQ (some (.int (b2i ((q_readOver sz bt pl x).1)))) (fun H => PsAt G t0 t1 A sz bt ((q_readOver sz bt pl x).2.1) ((q_readOver sz bt pl x).2.2) H) (psA t0 A)) 0 0 (psA t0 A) := by
  refine Met.ofW (cc := cX3_readOver) (maxL := 5) (ret := (some .boolean)) (by decide) rfl ?_
  intro p e s m args below meth c s₁ Bd hml hv
  obtain ⟨rfl, hK, hZ, hB⟩ := hv
  have hx := Bd.exec
  have hb := Bd.bytes
  have hr := Bd.returns
  have hts := atoms_spec (ws := wsX3_readOver) Bd.pre
  have hown : s.vm.findClass RX3 = some m.cls := findClass_of_methodNamed Bd.named
  have hlocks := Bd.notSynchronized
  have hC : CallFix p m c cX3_readOver 5 s _ wsX3_readOver RX3 := ⟨hx, hb, hml, hown, hts⟩
  have hl := lv_entry ([.ref t0, .ref (A 0)]) (n := 5) (Nat.le_of_ble_eq_true rfl)
  rw [lg_entry_eq]
  generalize (lg_sl ([.ref t0, .ref (A 0)]) ++ List.replicate (5 - (lg_sl ([.ref t0, .ref (A 0)])).length) Slot.unset).toArray = ls at hl ⊢
  have hl : lv_has ls 5 [(0, .ref t0), (1, .ref (A 0))] := hl
  have hS : wS (psA t0 A) s.heap s.heap [] := wS.rf
  have f_s := hB
  refine lv_aload_n hx hb dX3_readOver_0 rfl (lv_at hl 0 rfl) ?_
  refine va_ldcS hx hb hown (hZ.2.2.2.2.2 5 (by decide)) dX3_readOver_1 ?_
  obtain ⟨⟨r_0, pl_0⟩, hy_0⟩ : ∃ z9, q_takeOne sz bt 5 pl = z9 := ⟨_, rfl⟩
  refine wr_call (va_runV (As := [.ref (zK Z 5)]) (rest := []) hC (c2_X3_takeOne l G Z t0 t1 sz bt pl 5 htt (fun q h => hAZ q (Or.inl h)) (by decide) r_0 pl_0 hy_0) (cwV 1 hts gX3_readOver_X3_takeOne rfl rfl rfl kd_X3_takeOne ⟨Nat.le_of_ble_eq_true rfl, Nat.le_of_ble_eq_true rfl⟩) (a_preV hK hZ f_s.1.1 rfl f_s.1) rfl rfl hl.1 rfl (lv_room (Nat.le_of_ble_eq_true rfl)) dX3_readOver_3 ⟨Nat.zero_le _, Nat.zero_le _⟩) hS (fun q h => Or.inl h) (fun H locs f_n hq hS => ?_)
  have hZ := hZ.kept (fun a9 h9 => hq a9 (fun z9 => h9 (hAZ a9 ((fun q h => Or.inl h) a9 z9))))
  have f_s := (⟨f_n, f_s.2.kept (fun j hj => hq _ (hNt.1 j hj))⟩ : PsAt G t0 t1 A sz bt pl_0 x H)
  refine lv_istore_n (lv' := [(2, .int r_0), (0, .ref t0), (1, .ref (A 0))]) hx hb dX3_readOver_6 rfl hl (by decide) rfl (fun ls hl => ?_)
  refine lv_iload_n hx hb dX3_readOver_7 rfl (lv_at hl 0 rfl) ?_
  refine lv_if_lt (tgt := 20) hx hb dX3_readOver_8 (by decide) (fun h_1 => ?_) (fun h_1 => ?_)
  · refine lv_iconst (v := 0) hx hb dX3_readOver_20 (by decide) ?_
    have hE9 : q_readOver sz bt pl x = (false, pl_0, x) := (by (try unfold q_readOver); (try rw [hy_0]); (try dsimp only); (repeat rw [if_pos h_1]); first | done | rfl)
    exact wr_zret hx hb hr hlocks dX3_readOver_21 hS (by rw [hE9]; exact f_s) (by rw [hE9]; first | done | rfl)
  · refine lv_aload_n hx hb dX3_readOver_11 rfl (lv_at hl 1 rfl) ?_
    refine lv_bipush (v := 32) hx hb dX3_readOver_12 (by decide +kernel) ?_
    obtain ⟨⟨b_1, pl_1⟩, hy_1⟩ : ∃ z9, q_take sz bt 32 pl_0 = z9 := ⟨_, rfl⟩
    refine wr_call (va_runV (As := [.int 32]) (rest := []) hC (c2_X3_take l G t0 t1 sz bt pl_0 32 htt b_1 pl_1 hy_1) (cwV 1 hts gX3_readOver_X3_take rfl rfl rfl kd_X3_take ⟨Nat.le_of_ble_eq_true rfl, Nat.le_of_ble_eq_true rfl⟩) (ro_preV hK f_s.1.1 rfl f_s.1) rfl rfl hl.1 rfl (lv_room (Nat.le_of_ble_eq_true rfl)) dX3_readOver_14 ⟨Nat.zero_le _, Nat.zero_le _⟩) hS (fun q h => Or.inl h) (fun H locs f_n hq hS => ?_)
    have hZ := hZ.kept (fun a9 h9 => hq a9 (fun z9 => h9 (hAZ a9 ((fun q h => Or.inl h) a9 z9))))
    have f_s := (⟨f_n, f_s.2.kept (fun j hj => hq _ (hNt.1 j hj))⟩ : PsAt G t0 t1 A sz bt pl_1 x H)
    refine bz_ne (tgt := 22) hx hb dX3_readOver_17 (by decide) (fun h_2 => ?_) (fun h_2 => ?_)
    · refine lv_aload_n hx hb dX3_readOver_22 rfl (lv_at hl 1 rfl) ?_
      refine va_ldcS hx hb hown (hZ.2.2.2.2.2 5 (by decide)) dX3_readOver_23 ?_
      obtain ⟨⟨r_2, pl_2⟩, hy_2⟩ : ∃ z9, q_takeOne sz bt 5 pl_1 = z9 := ⟨_, rfl⟩
      refine wr_call (va_runV (As := [.ref (zK Z 5)]) (rest := []) hC (c2_X3_takeOne l G Z t0 t1 sz bt pl_1 5 htt (fun q h => hAZ q (Or.inl h)) (by decide) r_2 pl_2 hy_2) (cwV 1 hts gX3_readOver_X3_takeOne rfl rfl rfl kd_X3_takeOne ⟨Nat.le_of_ble_eq_true rfl, Nat.le_of_ble_eq_true rfl⟩) (a_preV hK hZ f_s.1.1 rfl f_s.1) rfl rfl hl.1 rfl (lv_room (Nat.le_of_ble_eq_true rfl)) dX3_readOver_25 ⟨Nat.zero_le _, Nat.zero_le _⟩) hS (fun q h => Or.inl h) (fun H locs f_n hq hS => ?_)
      have hZ := hZ.kept (fun a9 h9 => hq a9 (fun z9 => h9 (hAZ a9 ((fun q h => Or.inl h) a9 z9))))
      have f_s := (⟨f_n, f_s.2.kept (fun j hj => hq _ (hNt.1 j hj))⟩ : PsAt G t0 t1 A sz bt pl_2 x H)
      refine lv_istore_n (lv' := [(3, .int r_2), (2, .int r_0), (0, .ref t0), (1, .ref (A 0))]) hx hb dX3_readOver_28 rfl hl (by decide) rfl (fun ls hl => ?_)
      refine lv_iload_n hx hb dX3_readOver_29 rfl (lv_at hl 0 rfl) ?_
      refine lv_if_lt (tgt := 42) hx hb dX3_readOver_30 (by decide) (fun h_3 => ?_) (fun h_3 => ?_)
      · refine lv_iconst (v := 0) hx hb dX3_readOver_42 (by decide) ?_
        have hE9 : q_readOver sz bt pl x = (false, pl_2, x) := (by (try unfold q_readOver); (try rw [hy_0]); (try dsimp only); (repeat rw [if_neg h_1]); (try rw [hy_1]); (try dsimp only); (repeat rw [if_pos h_2]); (try rw [hy_2]); (try dsimp only); (repeat rw [if_pos h_3]); first | done | rfl)
        exact wr_zret hx hb hr hlocks dX3_readOver_43 hS (by rw [hE9]; exact f_s) (by rw [hE9]; first | done | rfl)
      · refine lv_aload_n hx hb dX3_readOver_33 rfl (lv_at hl 2 rfl) ?_
        refine lv_bipush (v := 32) hx hb dX3_readOver_34 (by decide +kernel) ?_
        obtain ⟨⟨b_3, pl_3⟩, hy_3⟩ : ∃ z9, q_take sz bt 32 pl_2 = z9 := ⟨_, rfl⟩
        refine wr_call (va_runV (As := [.int 32]) (rest := []) hC (c2_X3_take l G t0 t1 sz bt pl_2 32 htt b_3 pl_3 hy_3) (cwV 1 hts gX3_readOver_X3_take rfl rfl rfl kd_X3_take ⟨Nat.le_of_ble_eq_true rfl, Nat.le_of_ble_eq_true rfl⟩) (ro_preV hK f_s.1.1 rfl f_s.1) rfl rfl hl.1 rfl (lv_room (Nat.le_of_ble_eq_true rfl)) dX3_readOver_36 ⟨Nat.zero_le _, Nat.zero_le _⟩) hS (fun q h => Or.inl h) (fun H locs f_n hq hS => ?_)
        have hZ := hZ.kept (fun a9 h9 => hq a9 (fun z9 => h9 (hAZ a9 ((fun q h => Or.inl h) a9 z9))))
        have f_s := (⟨f_n, f_s.2.kept (fun j hj => hq _ (hNt.1 j hj))⟩ : PsAt G t0 t1 A sz bt pl_3 x H)
        refine bz_ne (tgt := 44) hx hb dX3_readOver_39 (by decide) (fun h_4 => ?_) (fun h_4 => ?_)
        · refine lv_aload_n hx hb dX3_readOver_44 rfl (lv_at hl 2 rfl) ?_
          obtain ⟨⟨r_4, pl_4⟩, hy_4⟩ : ∃ z9, q_readNumber sz bt pl_3 = z9 := ⟨_, rfl⟩
          refine wr_call (va_runV (As := []) (rest := []) hC (c2_X3_readNumber l G Z t0 t1 sz bt pl_3 htt (fun q h => hAZ q (Or.inl h)) r_4 pl_4 hy_4) (cwV 0 hts gX3_readOver_X3_readNumber rfl rfl rfl kd_X3_readNumber ⟨Nat.le_of_ble_eq_true rfl, Nat.le_of_ble_eq_true rfl⟩) (a_preV hK hZ f_s.1.1 rfl f_s.1) rfl rfl hl.1 rfl (lv_room (Nat.le_of_ble_eq_true rfl)) dX3_readOver_45 ⟨Nat.zero_le _, Nat.zero_le _⟩) hS (fun q h => Or.inl h) (fun H locs f_n hq hS => ?_)
          have hZ := hZ.kept (fun a9 h9 => hq a9 (fun z9 => h9 (hAZ a9 ((fun q h => Or.inl h) a9 z9))))
          have f_s := (⟨f_n, f_s.2.kept (fun j hj => hq _ (hNt.1 j hj))⟩ : PsAt G t0 t1 A sz bt pl_4 x H)
          refine lv_istore (lv' := [(4, .int r_4), (3, .int r_2), (2, .int r_0), (0, .ref t0), (1, .ref (A 0))]) hx hb dX3_readOver_48 hl (by decide) rfl (fun ls hl => ?_)
          refine lv_aload_n hx hb dX3_readOver_50 rfl (lv_at hl 4 rfl) ?_
          refine lv_iload_n hx hb dX3_readOver_51 rfl (lv_at hl 2 rfl) ?_
          refine lv_iload_n hx hb dX3_readOver_52 rfl (lv_at hl 1 rfl) ?_
          refine lv_iload hx hb dX3_readOver_53 (lv_at hl 0 rfl) ?_
          refine wr_callv (va_runV (As := [.int r_0, .int r_2, .int r_4]) (rest := []) hC (c_X1_addOver l G A x r_0 r_2 r_4 hNl) (cwV 3 hts gX3_readOver_X1_addOver rfl rfl rfl kd_X1_addOver ⟨Nat.le_of_ble_eq_true rfl, Nat.le_of_ble_eq_true rfl⟩) (ro_preV hK f_s.2.1 rfl f_s.2) rfl rfl hl.1 rfl (lv_room (Nat.le_of_ble_eq_true rfl)) dX3_readOver_55 ⟨Nat.zero_le _, Nat.zero_le _⟩) hS (fun q h => Or.inr h) (fun H locs f_n hq hS => ?_)
          have hZ := hZ.kept (fun a9 h9 => hq a9 (fun z9 => h9 (hAZ a9 ((fun q h => Or.inr h) a9 z9))))
          have f_s := (⟨f_s.1.kept (hq _ hNt.a0) (hq _ hNt.a1), f_n⟩ : PsAt G t0 t1 A sz bt pl_4 (g_addOver x r_0 r_2 r_4) H)
          refine lv_iload hx hb dX3_readOver_58 (lv_at hl 0 rfl) ?_
          refine join_wr (nL := 5) 68 [(4, .int r_4), (3, .int r_2), (2, .int r_0), (0, .ref t0), (1, .ref (A 0))] [.int (b2i (if r_4 < 0 then false else true))] (fun H locs => (PsAt G t0 t1 A sz bt pl_4 (g_addOver x r_0 r_2 r_4) H) ∧ wS (psA t0 A) s.heap H locs ∧ amK Z s H) (fun H locs hI ls hl => ?_) (fun J_5 => ?_)
          · obtain ⟨f_s, hS, hZ⟩ := hI
            have hE9 : q_readOver sz bt pl x = ((if r_4 < 0 then false else true), pl_4, (g_addOver x r_0 r_2 r_4)) := (by (try unfold q_readOver); (try rw [hy_0]); (try dsimp only); (repeat rw [if_neg h_1]); (try rw [hy_1]); (try dsimp only); (repeat rw [if_pos h_2]); (try rw [hy_2]); (try dsimp only); (repeat rw [if_neg h_3]); (try rw [hy_3]); (try dsimp only); (repeat rw [if_pos h_4]); (try rw [hy_4]); (try dsimp only); first | done | rfl)
            exact wr_zret hx hb hr hlocks dX3_readOver_68 hS (by rw [hE9]; exact f_s) (by rw [hE9]; first | done | rfl)
          · refine lv_if_lt (tgt := 67) hx hb dX3_readOver_60 (by decide) (fun h_6 => ?_) (fun h_6 => ?_)
            · refine lv_iconst (v := 0) hx hb dX3_readOver_67 (by decide) ?_
              have hJ := J_5; (repeat rw [if_pos h_6] at hJ)
              first | exact hJ _ _ ⟨f_s, hS, hZ⟩ ls (lv_sub hl [0, 1, 2, 3, 4] rfl) | ((repeat rw [if_pos h_6] at hl); (repeat rw [if_pos h_6]); exact hJ _ _ ⟨f_s, hS, hZ⟩ ls (lv_sub hl [0, 1, 2, 3, 4] rfl))
            · refine lv_iconst (v := 1) hx hb dX3_readOver_63 (by decide) ?_
              refine lv_goto (tgt := 68) hx hb dX3_readOver_64 (by decide) ?_
              have hJ := J_5; (repeat rw [if_neg h_6] at hJ)
              first | exact hJ _ _ ⟨f_s, hS, hZ⟩ ls (lv_sub hl [0, 1, 2, 3, 4] rfl) | ((repeat rw [if_neg h_6] at hl); (repeat rw [if_neg h_6]); exact hJ _ _ ⟨f_s, hS, hZ⟩ ls (lv_sub hl [0, 1, 2, 3, 4] rfl))
        · refine lv_iconst (v := 0) hx hb dX3_readOver_42 (by decide) ?_
          have hE9 : q_readOver sz bt pl x = (false, pl_3, x) := (by (try unfold q_readOver); (try rw [hy_0]); (try dsimp only); (repeat rw [if_neg h_1]); (try rw [hy_1]); (try dsimp only); (repeat rw [if_pos h_2]); (try rw [hy_2]); (try dsimp only); (repeat rw [if_neg h_3]); (try rw [hy_3]); (try dsimp only); (repeat rw [if_neg h_4]); first | done | rfl)
          exact wr_zret hx hb hr hlocks dX3_readOver_43 hS (by rw [hE9]; exact f_s) (by rw [hE9]; first | done | rfl)
    · refine lv_iconst (v := 0) hx hb dX3_readOver_20 (by decide) ?_
      have hE9 : q_readOver sz bt pl x = (false, pl_1, x) := (by (try unfold q_readOver); (try rw [hy_0]); (try dsimp only); (repeat rw [if_neg h_1]); (try rw [hy_1]); (try dsimp only); (repeat rw [if_neg h_2]); first | done | rfl)
      exact wr_zret hx hb hr hlocks dX3_readOver_21 hS (by rw [hE9]; exact f_s) (by rw [hE9]; first | done | rfl)
theorem c2_X3_readOver (l : Launch) (G : GG) (Z : AM) (t0 t1 : Nat) (A : Nat → Nat) (sz : Nat) (bt : Nat → Int32) (pl : Nat) (x : LawT) (htt : t0 ≠ t1) (hNl : lwN A) (hNt : psN t0 t1 A) (hAZ : ∀ q : Nat, psA t0 A q → Z.1 q) (b9 : Bool) (pl9 : Nat) (x9 : LawT) (hy9 : q_readOver sz bt pl x = (b9, pl9, x9)) : Met l yX3_readOver wsX3_readOver { frames := 6, cells := 0, slots := 0, locals := 152 } (aP G Z [.ref t0, .ref (A 0)] (fun H => PsAt G t0 t1 A sz bt pl x H)) (wrQ (some (.int (b2i b9))) (fun H => PsAt G t0 t1 A sz bt pl9 x9 H) (psA t0 A)) 0 0 (psA t0 A) := by
  have h9 := c_X3_readOver l G Z t0 t1 A sz bt pl x htt hNl hNt hAZ
  rw [hy9] at h9
  exact h9
theorem k_X3_readSlip_methodLink_90 : Cond.methodLink RX3 90 Lib.Math.min.name ∈ wsX3_readSlip := by decide +kernel
theorem k_X3_readSlip_mst_90 : Cond.static Lib.Math.min.name ∈ wsX3_readSlip := by decide +kernel
theorem k_X3_readSlip_min_90 : Cond.initialized "java/lang/Math" ∈ wsX3_readSlip := by decide +kernel
theorem k_X3_readSlip_mco_90 : Cond.code Lib.Math.min.name Lib.Math.min.code 2 (some .int) ∈ wsX3_readSlip := by decide +kernel
theorem i_X3_readSlip_X1 : ∀ w ∈ wsX10, w ∈ wsX3_readSlip := fun _ h => List.mem_cons_of_mem _ (List.mem_append_left _ (List.mem_append_right _ h))
theorem k_X3_readSlip_fieldLink_96 : Cond.fieldLink RX3 96 "SameWater$Law" "slip" "I" ∈ wsX3_readSlip := by decide +kernel
def q_readSlip (sz : Nat) (bt : Nat → Int32) (pl : Nat) (x : LawT) : Bool × Nat × LawT := (match q_readNumber sz bt pl with | (r_0, pl_0) => ((if r_0 < 0 then false else true), pl_0, (lSetSlip x (if 100 < r_0 then 100 else r_0))))
set_option maxHeartbeats 4000000 in
set_option maxRecDepth 100000 in
theorem c_X3_readSlip (l : Launch) (G : GG) (Z : AM) (t0 t1 : Nat) (A : Nat → Nat) (sz : Nat) (bt : Nat → Int32) (pl : Nat) (x : LawT) (htt : t0 ≠ t1) (hNl : lwN A) (hNt : psN t0 t1 A) (hAZ : ∀ q : Nat, psA t0 A q → Z.1 q) : Met l yX3_readSlip wsX3_readSlip { frames := 6, cells := 0, slots := 0, locals := 152 } (aP G Z [.ref t0, .ref (A 0)] (fun H => PsAt G t0 t1 A sz bt pl x H)) (wrQ (some (.int (b2i ((q_readSlip sz bt pl x).1)))) (fun H => PsAt G t0 t1 A sz bt ((q_readSlip sz bt pl x).2.1) ((q_readSlip sz bt pl x).2.2) H) (psA t0 A)) 0 0 (psA t0 A) := by
  refine Met.ofW (cc := cX3_readSlip) (maxL := 3) (ret := (some .boolean)) (by decide) rfl ?_
  intro p e s m args below meth c s₁ Bd hml hv
  obtain ⟨rfl, hK, hZ, hB⟩ := hv
  have hx := Bd.exec
  have hb := Bd.bytes
  have hr := Bd.returns
  have hts := atoms_spec (ws := wsX3_readSlip) Bd.pre
  have hown : s.vm.findClass RX3 = some m.cls := findClass_of_methodNamed Bd.named
  have hlocks := Bd.notSynchronized
  have hC : CallFix p m c cX3_readSlip 3 s _ wsX3_readSlip RX3 := ⟨hx, hb, hml, hown, hts⟩
  have hl := lv_entry ([.ref t0, .ref (A 0)]) (n := 3) (Nat.le_of_ble_eq_true rfl)
  rw [lg_entry_eq]
  generalize (lg_sl ([.ref t0, .ref (A 0)]) ++ List.replicate (3 - (lg_sl ([.ref t0, .ref (A 0)])).length) Slot.unset).toArray = ls at hl ⊢
  have hl : lv_has ls 3 [(0, .ref t0), (1, .ref (A 0))] := hl
  have hS : wS (psA t0 A) s.heap s.heap [] := wS.rf
  have f_s := hB
  refine lv_aload_n hx hb dX3_readSlip_0 rfl (lv_at hl 0 rfl) ?_
  obtain ⟨⟨r_0, pl_0⟩, hy_0⟩ : ∃ z9, q_readNumber sz bt pl = z9 := ⟨_, rfl⟩
  refine wr_call (va_runV (As := []) (rest := []) hC (c2_X3_readNumber l G Z t0 t1 sz bt pl htt (fun q h => hAZ q (Or.inl h)) r_0 pl_0 hy_0) (cwV 0 hts gX3_readSlip_X3_readNumber rfl rfl rfl kd_X3_readNumber ⟨Nat.le_of_ble_eq_true rfl, Nat.le_of_ble_eq_true rfl⟩) (a_preV hK hZ f_s.1.1 rfl f_s.1) rfl rfl hl.1 rfl (lv_room (Nat.le_of_ble_eq_true rfl)) dX3_readSlip_1 ⟨Nat.zero_le _, Nat.zero_le _⟩) hS (fun q h => Or.inl h) (fun H locs f_n hq hS => ?_)
  have hZ := hZ.kept (fun a9 h9 => hq a9 (fun z9 => h9 (hAZ a9 ((fun q h => Or.inl h) a9 z9))))
  have f_s := (⟨f_n, f_s.2.kept (fun j hj => hq _ (hNt.1 j hj))⟩ : PsAt G t0 t1 A sz bt pl_0 x H)
  refine lv_istore_n (lv' := [(2, .int r_0), (0, .ref t0), (1, .ref (A 0))]) hx hb dX3_readSlip_4 rfl hl (by decide) rfl (fun ls hl => ?_)
  refine lv_aload_n hx hb dX3_readSlip_5 rfl (lv_at hl 2 rfl) ?_
  refine lv_iload_n hx hb dX3_readSlip_6 rfl (lv_at hl 0 rfl) ?_
  refine lv_bipush (v := 100) hx hb dX3_readSlip_7 (by decide +kernel) ?_
  refine va_mmin hx hb (hml.trans hl.1.symm) hown (hts _ k_X3_readSlip_methodLink_90) (hts _ k_X3_readSlip_mst_90) (hts _ k_X3_readSlip_min_90) (hts _ k_X3_readSlip_mco_90) (Nat.le_of_ble_eq_true rfl) (Nat.le_of_ble_eq_true rfl) (Nat.zero_le _) (Nat.zero_le _) dX3_readSlip_9 ?_
  refine w_put (C := RX1) (T := TX1) (N := 8) hx hb hts i_X3_readSlip_X1 tyX1 tyX1_ok nmX1 hown hK f_s.2.1 hS (Or.inr (lwA.in A 0 (by decide))) rfl 3 (by decide) k_X3_readSlip_fieldLink_96 rfl rfl rfl rfl (Nat.le_of_ble_eq_true rfl) dX3_readSlip_12 (fun H locs hn hq hS => ?_)
  have hZ := hZ.put (hAZ _ (Or.inr (lwA.in A 0 (by decide)))) hq
  have f_l : LwAt G A (lSetSlip x (if 100 < r_0 then 100 else r_0)) H := ⟨hn, f_s.2.2.1.kept (hq _ (hNl 1 0 (by decide) (by decide) (by decide))), f_s.2.2.2.1.kept (hq _ (hNl 2 0 (by decide) (by decide) (by decide))) (hq _ (hNl 3 0 (by decide) (by decide) (by decide))), f_s.2.2.2.2.1.kept (hq _ (hNl 4 0 (by decide) (by decide) (by decide))), f_s.2.2.2.2.2⟩
  have f_s := (⟨f_s.1.kept (hq _ (hNt.1 0 (by decide)).symm) (hq _ (hNt.2 0 (by decide)).symm), f_l⟩ : PsAt G t0 t1 A sz bt pl_0 (lSetSlip x (if 100 < r_0 then 100 else r_0)) H)
  refine lv_iload_n hx hb dX3_readSlip_15 rfl (lv_at hl 0 rfl) ?_
  refine join_wr (nL := 3) 24 [(2, .int r_0), (0, .ref t0), (1, .ref (A 0))] [.int (b2i (if r_0 < 0 then false else true))] (fun H locs => (PsAt G t0 t1 A sz bt pl_0 (lSetSlip x (if 100 < r_0 then 100 else r_0)) H) ∧ wS (psA t0 A) s.heap H locs ∧ amK Z s H) (fun H locs hI ls hl => ?_) (fun J_1 => ?_)
  · obtain ⟨f_s, hS, hZ⟩ := hI
    have hE9 : q_readSlip sz bt pl x = ((if r_0 < 0 then false else true), pl_0, (lSetSlip x (if 100 < r_0 then 100 else r_0))) := (by (try unfold q_readSlip); (try rw [hy_0]); (try dsimp only); first | done | rfl)
    exact wr_zret hx hb hr hlocks dX3_readSlip_24 hS (by rw [hE9]; exact f_s) (by rw [hE9]; first | done | rfl)
  · refine lv_if_lt (tgt := 23) hx hb dX3_readSlip_16 (by decide) (fun h_2 => ?_) (fun h_2 => ?_)
    · refine lv_iconst (v := 0) hx hb dX3_readSlip_23 (by decide) ?_
      have hJ := J_1; (repeat rw [if_pos h_2] at hJ)
      first | exact hJ _ _ ⟨f_s, hS, hZ⟩ ls (lv_sub hl [0, 1, 2] rfl) | ((repeat rw [if_pos h_2] at hl); (repeat rw [if_pos h_2]); exact hJ _ _ ⟨f_s, hS, hZ⟩ ls (lv_sub hl [0, 1, 2] rfl))
    · refine lv_iconst (v := 1) hx hb dX3_readSlip_19 (by decide) ?_
      refine lv_goto (tgt := 24) hx hb dX3_readSlip_20 (by decide) ?_
      have hJ := J_1; (repeat rw [if_neg h_2] at hJ)
      first | exact hJ _ _ ⟨f_s, hS, hZ⟩ ls (lv_sub hl [0, 1, 2] rfl) | ((repeat rw [if_neg h_2] at hl); (repeat rw [if_neg h_2]); exact hJ _ _ ⟨f_s, hS, hZ⟩ ls (lv_sub hl [0, 1, 2] rfl))
theorem c2_X3_readSlip (l : Launch) (G : GG) (Z : AM) (t0 t1 : Nat) (A : Nat → Nat) (sz : Nat) (bt : Nat → Int32) (pl : Nat) (x : LawT) (htt : t0 ≠ t1) (hNl : lwN A) (hNt : psN t0 t1 A) (hAZ : ∀ q : Nat, psA t0 A q → Z.1 q) (b9 : Bool) (pl9 : Nat) (x9 : LawT) (hy9 : q_readSlip sz bt pl x = (b9, pl9, x9)) : Met l yX3_readSlip wsX3_readSlip { frames := 6, cells := 0, slots := 0, locals := 152 } (aP G Z [.ref t0, .ref (A 0)] (fun H => PsAt G t0 t1 A sz bt pl x H)) (wrQ (some (.int (b2i b9))) (fun H => PsAt G t0 t1 A sz bt pl9 x9 H) (psA t0 A)) 0 0 (psA t0 A) := by
  have h9 := c_X3_readSlip l G Z t0 t1 A sz bt pl x htt hNl hNt hAZ
  rw [hy9] at h9
  exact h9
theorem kd_X1_addStep : yX1_addStep.cls = RX1 ∧ yX1_addStep.cls ≠ "java/lang/invoke/MethodHandle" ∧ yX1_addStep.cls ≠ "java/lang/invoke/VarHandle" ∧ (parseMethodDescriptor yX1_addStep.desc).map (fun d => d.parameters.length) = some 1 := by decide +kernel
def q_partZ (sz : Nat) (bt : Nat → Int32) (pl : Nat) (x : LawT) : Bool × Nat × LawT := (match q_takeOne sz bt 6 pl with | (r_0, pl_0) => if 0 ≤ r_0 then (match q_takeOne sz bt 7 pl_0 with | (r_1, pl_1) => if 0 ≤ r_1 then (match q_readNumber sz bt pl_1 with | (r_2, pl_2) => ((if r_2 < 0 then false else true), pl_2, (g_addStep x (((r_0 * 3000) + (r_1 * 1000)) + r_2)))) else (false, pl_1, x)) else (false, pl_0, x))
set_option maxHeartbeats 4000000 in
set_option maxRecDepth 100000 in
theorem c_X3_readPart_z (l : Launch) (G : GG) (Z : AM) (t0 t1 : Nat) (A : Nat → Nat) (sz : Nat) (bt : Nat → Int32) (pl : Nat) (x : LawT) (op : Int32) (htt : t0 ≠ t1) (hNl : lwN A) (hNt : psN t0 t1 A) (hAZ : ∀ q : Nat, psA t0 A q → Z.1 q) (hop : 5 ≤ op) : Met l yX3_readPart wsX3_readPart { frames := 10 + 3 * 0, cells := 0, slots := 0, locals := 300 + 120 * 0 } (aP G Z [.ref t0, .ref (A 0), .int op] (fun H => PsAt G t0 t1 A sz bt pl x H)) (wrQ (some (.int (b2i ((q_partZ sz bt pl x).1)))) (fun H => PsAt G t0 t1 A sz bt ((q_partZ sz bt pl x).2.1) ((q_partZ sz bt pl x).2.2) H) (psA t0 A)) 0 0 (psA t0 A) := by
  refine Met.ofW (cc := cX3_readPart) (maxL := 6) (ret := (some .boolean)) (by decide) rfl ?_
  intro p e s m args below meth c s₁ Bd hml hv
  obtain ⟨rfl, hK, hZ, hB⟩ := hv
  have hx := Bd.exec
  have hb := Bd.bytes
  have hr := Bd.returns
  have hts := atoms_spec (ws := wsX3_readPart) Bd.pre
  have hown : s.vm.findClass RX3 = some m.cls := findClass_of_methodNamed Bd.named
  have hlocks := Bd.notSynchronized
  have hC : CallFix p m c cX3_readPart 6 s _ wsX3_readPart RX3 := ⟨hx, hb, hml, hown, hts⟩
  have hl := lv_entry ([.ref t0, .ref (A 0), .int op]) (n := 6) (Nat.le_of_ble_eq_true rfl)
  rw [lg_entry_eq]
  generalize (lg_sl ([.ref t0, .ref (A 0), .int op]) ++ List.replicate (6 - (lg_sl ([.ref t0, .ref (A 0), .int op])).length) Slot.unset).toArray = ls at hl ⊢
  have hl : lv_has ls 6 [(0, .ref t0), (1, .ref (A 0)), (2, .int op)] := hl
  have hS : wS (psA t0 A) s.heap s.heap [] := wS.rf
  have f_s := hB
  refine lv_iload_n hx hb dX3_readPart_0 rfl (lv_at hl 2 rfl) ?_
  refine lv_iconst (v := 5) hx hb dX3_readPart_1 (by decide) ?_
  refine lv_icmp_ge (tgt := 35) hx hb dX3_readPart_2 (by decide) (fun h_1 => ?_) (fun h_1 => ?_)
  · refine lv_iload_n hx hb dX3_readPart_35 rfl (lv_at hl 2 rfl) ?_
    refine lv_iconst (v := 5) hx hb dX3_readPart_36 (by decide) ?_
    refine lv_icmp_ge (tgt := 75) hx hb dX3_readPart_37 (by decide) (fun h_2 => ?_) (fun h_2 => ?_)
    · refine lv_aload_n hx hb dX3_readPart_75 rfl (lv_at hl 0 rfl) ?_
      refine va_ldcS hx hb hown (hZ.2.2.2.2.2 6 (by decide)) dX3_readPart_76 ?_
      obtain ⟨⟨r_0, pl_0⟩, hy_0⟩ : ∃ z9, q_takeOne sz bt 6 pl = z9 := ⟨_, rfl⟩
      refine wr_call (va_runV (As := [.ref (zK Z 6)]) (rest := []) hC (c2_X3_takeOne l G Z t0 t1 sz bt pl 6 htt (fun q h => hAZ q (Or.inl h)) (by decide) r_0 pl_0 hy_0) (cwV 1 hts gX3_readPart_X3_takeOne rfl rfl rfl kd_X3_takeOne ⟨(show 4 + 1 ≤ 10 + 3 * 0 by omega), (show 8 + (4 + 11) + (106) ≤ 300 + 120 * 0 by omega)⟩) (a_preV hK hZ f_s.1.1 rfl f_s.1) rfl rfl hl.1 rfl (lv_room (Nat.le_of_ble_eq_true rfl)) dX3_readPart_78 ⟨Nat.zero_le _, Nat.zero_le _⟩) hS (fun q h => Or.inl h) (fun H locs f_n hq hS => ?_)
      have hZ := hZ.kept (fun a9 h9 => hq a9 (fun z9 => h9 (hAZ a9 ((fun q h => Or.inl h) a9 z9))))
      have f_s := (⟨f_n, f_s.2.kept (fun j hj => hq _ (hNt.1 j hj))⟩ : PsAt G t0 t1 A sz bt pl_0 x H)
      refine lv_istore_n (lv' := [(3, .int r_0), (0, .ref t0), (1, .ref (A 0)), (2, .int op)]) hx hb dX3_readPart_81 rfl hl (by decide) rfl (fun ls hl => ?_)
      refine lv_iload_n hx hb dX3_readPart_82 rfl (lv_at hl 0 rfl) ?_
      refine lv_if_ge (tgt := 88) hx hb dX3_readPart_83 (by decide) (fun h_3 => ?_) (fun h_3 => ?_)
      · refine lv_aload_n hx hb dX3_readPart_88 rfl (lv_at hl 1 rfl) ?_
        refine va_ldcS hx hb hown (hZ.2.2.2.2.2 7 (by decide)) dX3_readPart_89 ?_
        obtain ⟨⟨r_1, pl_1⟩, hy_1⟩ : ∃ z9, q_takeOne sz bt 7 pl_0 = z9 := ⟨_, rfl⟩
        refine wr_call (va_runV (As := [.ref (zK Z 7)]) (rest := []) hC (c2_X3_takeOne l G Z t0 t1 sz bt pl_0 7 htt (fun q h => hAZ q (Or.inl h)) (by decide) r_1 pl_1 hy_1) (cwV 1 hts gX3_readPart_X3_takeOne rfl rfl rfl kd_X3_takeOne ⟨(show 4 + 1 ≤ 10 + 3 * 0 by omega), (show 8 + (4 + 11) + (106) ≤ 300 + 120 * 0 by omega)⟩) (a_preV hK hZ f_s.1.1 rfl f_s.1) rfl rfl hl.1 rfl (lv_room (Nat.le_of_ble_eq_true rfl)) dX3_readPart_91 ⟨Nat.zero_le _, Nat.zero_le _⟩) hS (fun q h => Or.inl h) (fun H locs f_n hq hS => ?_)
        have hZ := hZ.kept (fun a9 h9 => hq a9 (fun z9 => h9 (hAZ a9 ((fun q h => Or.inl h) a9 z9))))
        have f_s := (⟨f_n, f_s.2.kept (fun j hj => hq _ (hNt.1 j hj))⟩ : PsAt G t0 t1 A sz bt pl_1 x H)
        refine lv_istore (lv' := [(4, .int r_1), (3, .int r_0), (0, .ref t0), (1, .ref (A 0)), (2, .int op)]) hx hb dX3_readPart_94 hl (by decide) rfl (fun ls hl => ?_)
        refine lv_iload hx hb dX3_readPart_96 (lv_at hl 0 rfl) ?_
        refine lv_if_ge (tgt := 103) hx hb dX3_readPart_98 (by decide) (fun h_4 => ?_) (fun h_4 => ?_)
        · refine lv_aload_n hx hb dX3_readPart_103 rfl (lv_at hl 2 rfl) ?_
          obtain ⟨⟨r_2, pl_2⟩, hy_2⟩ : ∃ z9, q_readNumber sz bt pl_1 = z9 := ⟨_, rfl⟩
          refine wr_call (va_runV (As := []) (rest := []) hC (c2_X3_readNumber l G Z t0 t1 sz bt pl_1 htt (fun q h => hAZ q (Or.inl h)) r_2 pl_2 hy_2) (cwV 0 hts gX3_readPart_X3_readNumber rfl rfl rfl kd_X3_readNumber ⟨(show 5 + 1 ≤ 10 + 3 * 0 by omega), (show 8 + (4 + 11) + (129) ≤ 300 + 120 * 0 by omega)⟩) (a_preV hK hZ f_s.1.1 rfl f_s.1) rfl rfl hl.1 rfl (lv_room (Nat.le_of_ble_eq_true rfl)) dX3_readPart_104 ⟨Nat.zero_le _, Nat.zero_le _⟩) hS (fun q h => Or.inl h) (fun H locs f_n hq hS => ?_)
          have hZ := hZ.kept (fun a9 h9 => hq a9 (fun z9 => h9 (hAZ a9 ((fun q h => Or.inl h) a9 z9))))
          have f_s := (⟨f_n, f_s.2.kept (fun j hj => hq _ (hNt.1 j hj))⟩ : PsAt G t0 t1 A sz bt pl_2 x H)
          refine lv_istore (lv' := [(5, .int r_2), (4, .int r_1), (3, .int r_0), (0, .ref t0), (1, .ref (A 0)), (2, .int op)]) hx hb dX3_readPart_107 hl (by decide) rfl (fun ls hl => ?_)
          refine lv_aload_n hx hb dX3_readPart_109 rfl (lv_at hl 4 rfl) ?_
          refine lv_iload_n hx hb dX3_readPart_110 rfl (lv_at hl 2 rfl) ?_
          refine lv_sipush (v := 3000) hx hb dX3_readPart_111 (by decide +kernel) ?_
          refine lv_imul hx hb dX3_readPart_114 ?_
          refine lv_iload hx hb dX3_readPart_115 (lv_at hl 1 rfl) ?_
          refine lv_sipush (v := 1000) hx hb dX3_readPart_117 (by decide +kernel) ?_
          refine lv_imul hx hb dX3_readPart_120 ?_
          refine lv_iadd hx hb dX3_readPart_121 ?_
          refine lv_iload hx hb dX3_readPart_122 (lv_at hl 0 rfl) ?_
          refine lv_iadd hx hb dX3_readPart_124 ?_
          refine wr_callv (va_runV (As := [.int (((r_0 * 3000) + (r_1 * 1000)) + r_2)]) (rest := []) hC (c_X1_addStep l G A x (((r_0 * 3000) + (r_1 * 1000)) + r_2) hNl) (cwV 1 hts gX3_readPart_X1_addStep rfl rfl rfl kd_X1_addStep ⟨(show 0 + 1 ≤ 10 + 3 * 0 by omega), (show 8 + (2 + 11) + (0) ≤ 300 + 120 * 0 by omega)⟩) (ro_preV hK f_s.2.1 rfl f_s.2) rfl rfl hl.1 rfl (lv_room (Nat.le_of_ble_eq_true rfl)) dX3_readPart_125 ⟨Nat.zero_le _, Nat.zero_le _⟩) hS (fun q h => Or.inr h) (fun H locs f_n hq hS => ?_)
          have hZ := hZ.kept (fun a9 h9 => hq a9 (fun z9 => h9 (hAZ a9 ((fun q h => Or.inr h) a9 z9))))
          have f_s := (⟨f_s.1.kept (hq _ hNt.a0) (hq _ hNt.a1), f_n⟩ : PsAt G t0 t1 A sz bt pl_2 (g_addStep x (((r_0 * 3000) + (r_1 * 1000)) + r_2)) H)
          refine lv_iload hx hb dX3_readPart_128 (lv_at hl 0 rfl) ?_
          refine join_wr (nL := 6) 138 [(5, .int r_2), (4, .int r_1), (3, .int r_0), (0, .ref t0), (1, .ref (A 0)), (2, .int op)] [.int (b2i (if r_2 < 0 then false else true))] (fun H locs => (PsAt G t0 t1 A sz bt pl_2 (g_addStep x (((r_0 * 3000) + (r_1 * 1000)) + r_2)) H) ∧ wS (psA t0 A) s.heap H locs ∧ amK Z s H) (fun H locs hI ls hl => ?_) (fun J_5 => ?_)
          · obtain ⟨f_s, hS, hZ⟩ := hI
            have hE9 : q_partZ sz bt pl x = ((if r_2 < 0 then false else true), pl_2, (g_addStep x (((r_0 * 3000) + (r_1 * 1000)) + r_2))) := (by (try unfold q_partZ); (repeat rw [if_pos h_1]); (repeat rw [if_pos h_2]); (try rw [hy_0]); (try dsimp only); (repeat rw [if_pos h_3]); (try rw [hy_1]); (try dsimp only); (repeat rw [if_pos h_4]); (try rw [hy_2]); (try dsimp only); first | done | rfl)
            exact wr_zret hx hb hr hlocks dX3_readPart_138 hS (by rw [hE9]; exact f_s) (by rw [hE9]; first | done | rfl)
          · refine lv_if_lt (tgt := 137) hx hb dX3_readPart_130 (by decide) (fun h_6 => ?_) (fun h_6 => ?_)
            · refine lv_iconst (v := 0) hx hb dX3_readPart_137 (by decide) ?_
              have hJ := J_5; (repeat rw [if_pos h_6] at hJ)
              first | exact hJ _ _ ⟨f_s, hS, hZ⟩ ls (lv_sub hl [0, 1, 2, 3, 4, 5] rfl) | ((repeat rw [if_pos h_6] at hl); (repeat rw [if_pos h_6]); exact hJ _ _ ⟨f_s, hS, hZ⟩ ls (lv_sub hl [0, 1, 2, 3, 4, 5] rfl))
            · refine lv_iconst (v := 1) hx hb dX3_readPart_133 (by decide) ?_
              refine lv_goto (tgt := 138) hx hb dX3_readPart_134 (by decide) ?_
              have hJ := J_5; (repeat rw [if_neg h_6] at hJ)
              first | exact hJ _ _ ⟨f_s, hS, hZ⟩ ls (lv_sub hl [0, 1, 2, 3, 4, 5] rfl) | ((repeat rw [if_neg h_6] at hl); (repeat rw [if_neg h_6]); exact hJ _ _ ⟨f_s, hS, hZ⟩ ls (lv_sub hl [0, 1, 2, 3, 4, 5] rfl))
        · refine lv_iconst (v := 0) hx hb dX3_readPart_101 (by decide) ?_
          have hE9 : q_partZ sz bt pl x = (false, pl_1, x) := (by (try unfold q_partZ); (repeat rw [if_pos h_1]); (repeat rw [if_pos h_2]); (try rw [hy_0]); (try dsimp only); (repeat rw [if_pos h_3]); (try rw [hy_1]); (try dsimp only); (repeat rw [if_neg h_4]); first | done | rfl)
          exact wr_zret hx hb hr hlocks dX3_readPart_102 hS (by rw [hE9]; exact f_s) (by rw [hE9]; first | done | rfl)
      · refine lv_iconst (v := 0) hx hb dX3_readPart_86 (by decide) ?_
        have hE9 : q_partZ sz bt pl x = (false, pl_0, x) := (by (try unfold q_partZ); (repeat rw [if_pos h_1]); (repeat rw [if_pos h_2]); (try rw [hy_0]); (try dsimp only); (repeat rw [if_neg h_3]); first | done | rfl)
        exact wr_zret hx hb hr hlocks dX3_readPart_87 hS (by rw [hE9]; exact f_s) (by rw [hE9]; first | done | rfl)
    · exact absurd hop h_2
  · exact absurd hop h_1
theorem c2_X3_readPart_z (l : Launch) (G : GG) (Z : AM) (t0 t1 : Nat) (A : Nat → Nat) (sz : Nat) (bt : Nat → Int32) (pl : Nat) (x : LawT) (op : Int32) (htt : t0 ≠ t1) (hNl : lwN A) (hNt : psN t0 t1 A) (hAZ : ∀ q : Nat, psA t0 A q → Z.1 q) (hop : 5 ≤ op) (b9 : Bool) (pl9 : Nat) (x9 : LawT) (hy9 : q_partZ sz bt pl x = (b9, pl9, x9)) : Met l yX3_readPart wsX3_readPart { frames := 10 + 3 * 0, cells := 0, slots := 0, locals := 300 + 120 * 0 } (aP G Z [.ref t0, .ref (A 0), .int op] (fun H => PsAt G t0 t1 A sz bt pl x H)) (wrQ (some (.int (b2i b9))) (fun H => PsAt G t0 t1 A sz bt pl9 x9 H) (psA t0 A)) 0 0 (psA t0 A) := by
  have h9 := c_X3_readPart_z l G Z t0 t1 A sz bt pl x op htt hNl hNt hAZ hop
  rw [hy9] at h9
  exact h9
theorem kd_X3_readPart : yX3_readPart.cls = RX3 ∧ yX3_readPart.cls ≠ "java/lang/invoke/MethodHandle" ∧ yX3_readPart.cls ≠ "java/lang/invoke/VarHandle" ∧ (parseMethodDescriptor yX3_readPart.desc).map (fun d => d.parameters.length) = some 2 := by decide +kernel
theorem kd_X3_readEither : yX3_readEither.cls = RX3 ∧ yX3_readEither.cls ≠ "java/lang/invoke/MethodHandle" ∧ yX3_readEither.cls ≠ "java/lang/invoke/VarHandle" ∧ (parseMethodDescriptor yX3_readEither.desc).map (fun d => d.parameters.length) = some 2 := by decide +kernel
def q_partS (sz : Nat) (bt : Nat → Int32) (P E : PF) (pl : Nat) (x : LawT) : Bool × Nat × LawT := (match q_take sz bt 33 pl with | (b_0, pl_0) => if b_0 = true then (match P pl_0 x with | (b_1, pl_1, x_1) => if b_1 = true then (true, pl_1, (g_addStep x_1 (-3))) else (false, pl_1, x_1)) else (match q_take sz bt 40 pl_0 with | (b_1, pl_1) => if b_1 = true then (match E pl_1 x with | (b_2, pl_2, x_2) => if b_2 = true then (match q_take sz bt 41 pl_2 with | (b_3, pl_3) => ((if b_3 = true then true else false), pl_3, x_2)) else (false, pl_2, x_2)) else (match q_takeOne sz bt 6 pl_1 with | (r_2, pl_2) => if 0 ≤ r_2 then (match q_takeOne sz bt 7 pl_2 with | (r_3, pl_3) => if 0 ≤ r_3 then (match q_readNumber sz bt pl_3 with | (r_4, pl_4) => ((if r_4 < 0 then false else true), pl_4, (g_addStep x (((r_2 * 3000) + (r_3 * 1000)) + r_4)))) else (false, pl_3, x)) else (false, pl_2, x))))
set_option maxHeartbeats 4000000 in
set_option maxRecDepth 100000 in
theorem c_X3_readPart_s (l : Launch) (G : GG) (Z : AM) (t0 t1 : Nat) (A : Nat → Nat) (sz : Nat) (bt : Nat → Int32) (pl : Nat) (x : LawT) (op : Int32) (d : Nat) (P E : PF) (htt : t0 ≠ t1) (hNl : lwN A) (hNt : psN t0 t1 A) (hAZ : ∀ q : Nat, psA t0 A q → Z.1 q) (hop : ¬ 5 ≤ op) (hP : cRec l G Z t0 t1 A sz bt yX3_readPart wsX3_readPart { frames := 10 + 3 * d, cells := 0, slots := 0, locals := 300 + 120 * d } (op + 1) P) (hE : cRec l G Z t0 t1 A sz bt yX3_readEither wsX3_readEither { frames := 12 + 3 * d, cells := 0, slots := 0, locals := 380 + 120 * d } (op + 1) E) : Met l yX3_readPart wsX3_readPart { frames := 10 + 3 * (d + 1), cells := 0, slots := 0, locals := 300 + 120 * (d + 1) } (aP G Z [.ref t0, .ref (A 0), .int op] (fun H => PsAt G t0 t1 A sz bt pl x H)) (wrQ (some (.int (b2i ((q_partS sz bt P E pl x).1)))) (fun H => PsAt G t0 t1 A sz bt ((q_partS sz bt P E pl x).2.1) ((q_partS sz bt P E pl x).2.2) H) (psA t0 A)) 0 0 (psA t0 A) := by
  refine Met.ofW (cc := cX3_readPart) (maxL := 6) (ret := (some .boolean)) (by decide) rfl ?_
  intro p e s m args below meth c s₁ Bd hml hv
  obtain ⟨rfl, hK, hZ, hB⟩ := hv
  have hx := Bd.exec
  have hb := Bd.bytes
  have hr := Bd.returns
  have hts := atoms_spec (ws := wsX3_readPart) Bd.pre
  have hown : s.vm.findClass RX3 = some m.cls := findClass_of_methodNamed Bd.named
  have hlocks := Bd.notSynchronized
  have hC : CallFix p m c cX3_readPart 6 s _ wsX3_readPart RX3 := ⟨hx, hb, hml, hown, hts⟩
  have hl := lv_entry ([.ref t0, .ref (A 0), .int op]) (n := 6) (Nat.le_of_ble_eq_true rfl)
  rw [lg_entry_eq]
  generalize (lg_sl ([.ref t0, .ref (A 0), .int op]) ++ List.replicate (6 - (lg_sl ([.ref t0, .ref (A 0), .int op])).length) Slot.unset).toArray = ls at hl ⊢
  have hl : lv_has ls 6 [(0, .ref t0), (1, .ref (A 0)), (2, .int op)] := hl
  have hS : wS (psA t0 A) s.heap s.heap [] := wS.rf
  have f_s := hB
  refine lv_iload_n hx hb dX3_readPart_0 rfl (lv_at hl 2 rfl) ?_
  refine lv_iconst (v := 5) hx hb dX3_readPart_1 (by decide) ?_
  refine lv_icmp_ge (tgt := 35) hx hb dX3_readPart_2 (by decide) (fun h_1 => ?_) (fun h_1 => ?_)
  · exact absurd h_1 hop
  · refine lv_aload_n hx hb dX3_readPart_5 rfl (lv_at hl 0 rfl) ?_
    refine lv_bipush (v := 33) hx hb dX3_readPart_6 (by decide +kernel) ?_
    obtain ⟨⟨b_0, pl_0⟩, hy_0⟩ : ∃ z9, q_take sz bt 33 pl = z9 := ⟨_, rfl⟩
    refine wr_call (va_runV (As := [.int 33]) (rest := []) hC (c2_X3_take l G t0 t1 sz bt pl 33 htt b_0 pl_0 hy_0) (cwV 1 hts gX3_readPart_X3_take rfl rfl rfl kd_X3_take ⟨(show 0 + 1 ≤ 10 + 3 * (d + 1) by omega), (show 8 + (2 + 11) + (0) ≤ 300 + 120 * (d + 1) by omega)⟩) (ro_preV hK f_s.1.1 rfl f_s.1) rfl rfl hl.1 rfl (lv_room (Nat.le_of_ble_eq_true rfl)) dX3_readPart_8 ⟨Nat.zero_le _, Nat.zero_le _⟩) hS (fun q h => Or.inl h) (fun H locs f_n hq hS => ?_)
    have hZ := hZ.kept (fun a9 h9 => hq a9 (fun z9 => h9 (hAZ a9 ((fun q h => Or.inl h) a9 z9))))
    have f_s := (⟨f_n, f_s.2.kept (fun j hj => hq _ (hNt.1 j hj))⟩ : PsAt G t0 t1 A sz bt pl_0 x H)
    refine bz_eq (tgt := 35) hx hb dX3_readPart_11 (by decide) (fun h_2 => ?_) (fun h_2 => ?_)
    · refine lv_iload_n hx hb dX3_readPart_35 rfl (lv_at hl 2 rfl) ?_
      refine lv_iconst (v := 5) hx hb dX3_readPart_36 (by decide) ?_
      refine lv_icmp_ge (tgt := 75) hx hb dX3_readPart_37 (by decide) (fun h_3 => ?_) (fun h_3 => ?_)
      · exact absurd h_3 hop
      · refine lv_aload_n hx hb dX3_readPart_40 rfl (lv_at hl 0 rfl) ?_
        refine lv_bipush (v := 40) hx hb dX3_readPart_41 (by decide +kernel) ?_
        obtain ⟨⟨b_1, pl_1⟩, hy_1⟩ : ∃ z9, q_take sz bt 40 pl_0 = z9 := ⟨_, rfl⟩
        refine wr_call (va_runV (As := [.int 40]) (rest := []) hC (c2_X3_take l G t0 t1 sz bt pl_0 40 htt b_1 pl_1 hy_1) (cwV 1 hts gX3_readPart_X3_take rfl rfl rfl kd_X3_take ⟨(show 0 + 1 ≤ 10 + 3 * (d + 1) by omega), (show 8 + (2 + 11) + (0) ≤ 300 + 120 * (d + 1) by omega)⟩) (ro_preV hK f_s.1.1 rfl f_s.1) rfl rfl hl.1 rfl (lv_room (Nat.le_of_ble_eq_true rfl)) dX3_readPart_43 ⟨Nat.zero_le _, Nat.zero_le _⟩) hS (fun q h => Or.inl h) (fun H locs f_n hq hS => ?_)
        have hZ := hZ.kept (fun a9 h9 => hq a9 (fun z9 => h9 (hAZ a9 ((fun q h => Or.inl h) a9 z9))))
        have f_s := (⟨f_n, f_s.2.kept (fun j hj => hq _ (hNt.1 j hj))⟩ : PsAt G t0 t1 A sz bt pl_1 x H)
        refine bz_eq (tgt := 75) hx hb dX3_readPart_46 (by decide) (fun h_4 => ?_) (fun h_4 => ?_)
        · refine lv_aload_n hx hb dX3_readPart_75 rfl (lv_at hl 0 rfl) ?_
          refine va_ldcS hx hb hown (hZ.2.2.2.2.2 6 (by decide)) dX3_readPart_76 ?_
          obtain ⟨⟨r_2, pl_2⟩, hy_2⟩ : ∃ z9, q_takeOne sz bt 6 pl_1 = z9 := ⟨_, rfl⟩
          refine wr_call (va_runV (As := [.ref (zK Z 6)]) (rest := []) hC (c2_X3_takeOne l G Z t0 t1 sz bt pl_1 6 htt (fun q h => hAZ q (Or.inl h)) (by decide) r_2 pl_2 hy_2) (cwV 1 hts gX3_readPart_X3_takeOne rfl rfl rfl kd_X3_takeOne ⟨(show 4 + 1 ≤ 10 + 3 * (d + 1) by omega), (show 8 + (4 + 11) + (106) ≤ 300 + 120 * (d + 1) by omega)⟩) (a_preV hK hZ f_s.1.1 rfl f_s.1) rfl rfl hl.1 rfl (lv_room (Nat.le_of_ble_eq_true rfl)) dX3_readPart_78 ⟨Nat.zero_le _, Nat.zero_le _⟩) hS (fun q h => Or.inl h) (fun H locs f_n hq hS => ?_)
          have hZ := hZ.kept (fun a9 h9 => hq a9 (fun z9 => h9 (hAZ a9 ((fun q h => Or.inl h) a9 z9))))
          have f_s := (⟨f_n, f_s.2.kept (fun j hj => hq _ (hNt.1 j hj))⟩ : PsAt G t0 t1 A sz bt pl_2 x H)
          refine lv_istore_n (lv' := [(3, .int r_2), (0, .ref t0), (1, .ref (A 0)), (2, .int op)]) hx hb dX3_readPart_81 rfl hl (by decide) rfl (fun ls hl => ?_)
          refine lv_iload_n hx hb dX3_readPart_82 rfl (lv_at hl 0 rfl) ?_
          refine lv_if_ge (tgt := 88) hx hb dX3_readPart_83 (by decide) (fun h_5 => ?_) (fun h_5 => ?_)
          · refine lv_aload_n hx hb dX3_readPart_88 rfl (lv_at hl 1 rfl) ?_
            refine va_ldcS hx hb hown (hZ.2.2.2.2.2 7 (by decide)) dX3_readPart_89 ?_
            obtain ⟨⟨r_3, pl_3⟩, hy_3⟩ : ∃ z9, q_takeOne sz bt 7 pl_2 = z9 := ⟨_, rfl⟩
            refine wr_call (va_runV (As := [.ref (zK Z 7)]) (rest := []) hC (c2_X3_takeOne l G Z t0 t1 sz bt pl_2 7 htt (fun q h => hAZ q (Or.inl h)) (by decide) r_3 pl_3 hy_3) (cwV 1 hts gX3_readPart_X3_takeOne rfl rfl rfl kd_X3_takeOne ⟨(show 4 + 1 ≤ 10 + 3 * (d + 1) by omega), (show 8 + (4 + 11) + (106) ≤ 300 + 120 * (d + 1) by omega)⟩) (a_preV hK hZ f_s.1.1 rfl f_s.1) rfl rfl hl.1 rfl (lv_room (Nat.le_of_ble_eq_true rfl)) dX3_readPart_91 ⟨Nat.zero_le _, Nat.zero_le _⟩) hS (fun q h => Or.inl h) (fun H locs f_n hq hS => ?_)
            have hZ := hZ.kept (fun a9 h9 => hq a9 (fun z9 => h9 (hAZ a9 ((fun q h => Or.inl h) a9 z9))))
            have f_s := (⟨f_n, f_s.2.kept (fun j hj => hq _ (hNt.1 j hj))⟩ : PsAt G t0 t1 A sz bt pl_3 x H)
            refine lv_istore (lv' := [(4, .int r_3), (3, .int r_2), (0, .ref t0), (1, .ref (A 0)), (2, .int op)]) hx hb dX3_readPart_94 hl (by decide) rfl (fun ls hl => ?_)
            refine lv_iload hx hb dX3_readPart_96 (lv_at hl 0 rfl) ?_
            refine lv_if_ge (tgt := 103) hx hb dX3_readPart_98 (by decide) (fun h_6 => ?_) (fun h_6 => ?_)
            · refine lv_aload_n hx hb dX3_readPart_103 rfl (lv_at hl 2 rfl) ?_
              obtain ⟨⟨r_4, pl_4⟩, hy_4⟩ : ∃ z9, q_readNumber sz bt pl_3 = z9 := ⟨_, rfl⟩
              refine wr_call (va_runV (As := []) (rest := []) hC (c2_X3_readNumber l G Z t0 t1 sz bt pl_3 htt (fun q h => hAZ q (Or.inl h)) r_4 pl_4 hy_4) (cwV 0 hts gX3_readPart_X3_readNumber rfl rfl rfl kd_X3_readNumber ⟨(show 5 + 1 ≤ 10 + 3 * (d + 1) by omega), (show 8 + (4 + 11) + (129) ≤ 300 + 120 * (d + 1) by omega)⟩) (a_preV hK hZ f_s.1.1 rfl f_s.1) rfl rfl hl.1 rfl (lv_room (Nat.le_of_ble_eq_true rfl)) dX3_readPart_104 ⟨Nat.zero_le _, Nat.zero_le _⟩) hS (fun q h => Or.inl h) (fun H locs f_n hq hS => ?_)
              have hZ := hZ.kept (fun a9 h9 => hq a9 (fun z9 => h9 (hAZ a9 ((fun q h => Or.inl h) a9 z9))))
              have f_s := (⟨f_n, f_s.2.kept (fun j hj => hq _ (hNt.1 j hj))⟩ : PsAt G t0 t1 A sz bt pl_4 x H)
              refine lv_istore (lv' := [(5, .int r_4), (4, .int r_3), (3, .int r_2), (0, .ref t0), (1, .ref (A 0)), (2, .int op)]) hx hb dX3_readPart_107 hl (by decide) rfl (fun ls hl => ?_)
              refine lv_aload_n hx hb dX3_readPart_109 rfl (lv_at hl 4 rfl) ?_
              refine lv_iload_n hx hb dX3_readPart_110 rfl (lv_at hl 2 rfl) ?_
              refine lv_sipush (v := 3000) hx hb dX3_readPart_111 (by decide +kernel) ?_
              refine lv_imul hx hb dX3_readPart_114 ?_
              refine lv_iload hx hb dX3_readPart_115 (lv_at hl 1 rfl) ?_
              refine lv_sipush (v := 1000) hx hb dX3_readPart_117 (by decide +kernel) ?_
              refine lv_imul hx hb dX3_readPart_120 ?_
              refine lv_iadd hx hb dX3_readPart_121 ?_
              refine lv_iload hx hb dX3_readPart_122 (lv_at hl 0 rfl) ?_
              refine lv_iadd hx hb dX3_readPart_124 ?_
              refine wr_callv (va_runV (As := [.int (((r_2 * 3000) + (r_3 * 1000)) + r_4)]) (rest := []) hC (c_X1_addStep l G A x (((r_2 * 3000) + (r_3 * 1000)) + r_4) hNl) (cwV 1 hts gX3_readPart_X1_addStep rfl rfl rfl kd_X1_addStep ⟨(show 0 + 1 ≤ 10 + 3 * (d + 1) by omega), (show 8 + (2 + 11) + (0) ≤ 300 + 120 * (d + 1) by omega)⟩) (ro_preV hK f_s.2.1 rfl f_s.2) rfl rfl hl.1 rfl (lv_room (Nat.le_of_ble_eq_true rfl)) dX3_readPart_125 ⟨Nat.zero_le _, Nat.zero_le _⟩) hS (fun q h => Or.inr h) (fun H locs f_n hq hS => ?_)
              have hZ := hZ.kept (fun a9 h9 => hq a9 (fun z9 => h9 (hAZ a9 ((fun q h => Or.inr h) a9 z9))))
              have f_s := (⟨f_s.1.kept (hq _ hNt.a0) (hq _ hNt.a1), f_n⟩ : PsAt G t0 t1 A sz bt pl_4 (g_addStep x (((r_2 * 3000) + (r_3 * 1000)) + r_4)) H)
              refine lv_iload hx hb dX3_readPart_128 (lv_at hl 0 rfl) ?_
              refine join_wr (nL := 6) 138 [(5, .int r_4), (4, .int r_3), (3, .int r_2), (0, .ref t0), (1, .ref (A 0)), (2, .int op)] [.int (b2i (if r_4 < 0 then false else true))] (fun H locs => (PsAt G t0 t1 A sz bt pl_4 (g_addStep x (((r_2 * 3000) + (r_3 * 1000)) + r_4)) H) ∧ wS (psA t0 A) s.heap H locs ∧ amK Z s H) (fun H locs hI ls hl => ?_) (fun J_7 => ?_)
              · obtain ⟨f_s, hS, hZ⟩ := hI
                have hE9 : q_partS sz bt P E pl x = ((if r_4 < 0 then false else true), pl_4, (g_addStep x (((r_2 * 3000) + (r_3 * 1000)) + r_4))) := (by (try unfold q_partS); (repeat rw [if_neg h_1]); (try rw [hy_0]); (try dsimp only); (repeat rw [if_neg h_2]); (repeat rw [if_neg h_3]); (try rw [hy_1]); (try dsimp only); (repeat rw [if_neg h_4]); (try rw [hy_2]); (try dsimp only); (repeat rw [if_pos h_5]); (try rw [hy_3]); (try dsimp only); (repeat rw [if_pos h_6]); (try rw [hy_4]); (try dsimp only); first | done | rfl)
                exact wr_zret hx hb hr hlocks dX3_readPart_138 hS (by rw [hE9]; exact f_s) (by rw [hE9]; first | done | rfl)
              · refine lv_if_lt (tgt := 137) hx hb dX3_readPart_130 (by decide) (fun h_8 => ?_) (fun h_8 => ?_)
                · refine lv_iconst (v := 0) hx hb dX3_readPart_137 (by decide) ?_
                  have hJ := J_7; (repeat rw [if_pos h_8] at hJ)
                  first | exact hJ _ _ ⟨f_s, hS, hZ⟩ ls (lv_sub hl [0, 1, 2, 3, 4, 5] rfl) | ((repeat rw [if_pos h_8] at hl); (repeat rw [if_pos h_8]); exact hJ _ _ ⟨f_s, hS, hZ⟩ ls (lv_sub hl [0, 1, 2, 3, 4, 5] rfl))
                · refine lv_iconst (v := 1) hx hb dX3_readPart_133 (by decide) ?_
                  refine lv_goto (tgt := 138) hx hb dX3_readPart_134 (by decide) ?_
                  have hJ := J_7; (repeat rw [if_neg h_8] at hJ)
                  first | exact hJ _ _ ⟨f_s, hS, hZ⟩ ls (lv_sub hl [0, 1, 2, 3, 4, 5] rfl) | ((repeat rw [if_neg h_8] at hl); (repeat rw [if_neg h_8]); exact hJ _ _ ⟨f_s, hS, hZ⟩ ls (lv_sub hl [0, 1, 2, 3, 4, 5] rfl))
            · refine lv_iconst (v := 0) hx hb dX3_readPart_101 (by decide) ?_
              have hE9 : q_partS sz bt P E pl x = (false, pl_3, x) := (by (try unfold q_partS); (repeat rw [if_neg h_1]); (try rw [hy_0]); (try dsimp only); (repeat rw [if_neg h_2]); (repeat rw [if_neg h_3]); (try rw [hy_1]); (try dsimp only); (repeat rw [if_neg h_4]); (try rw [hy_2]); (try dsimp only); (repeat rw [if_pos h_5]); (try rw [hy_3]); (try dsimp only); (repeat rw [if_neg h_6]); first | done | rfl)
              exact wr_zret hx hb hr hlocks dX3_readPart_102 hS (by rw [hE9]; exact f_s) (by rw [hE9]; first | done | rfl)
          · refine lv_iconst (v := 0) hx hb dX3_readPart_86 (by decide) ?_
            have hE9 : q_partS sz bt P E pl x = (false, pl_2, x) := (by (try unfold q_partS); (repeat rw [if_neg h_1]); (try rw [hy_0]); (try dsimp only); (repeat rw [if_neg h_2]); (repeat rw [if_neg h_3]); (try rw [hy_1]); (try dsimp only); (repeat rw [if_neg h_4]); (try rw [hy_2]); (try dsimp only); (repeat rw [if_neg h_5]); first | done | rfl)
            exact wr_zret hx hb hr hlocks dX3_readPart_87 hS (by rw [hE9]; exact f_s) (by rw [hE9]; first | done | rfl)
        · refine lv_aload_n hx hb dX3_readPart_49 rfl (lv_at hl 0 rfl) ?_
          refine lv_aload_n hx hb dX3_readPart_50 rfl (lv_at hl 1 rfl) ?_
          refine lv_iload_n hx hb dX3_readPart_51 rfl (lv_at hl 2 rfl) ?_
          refine lv_iconst (v := 1) hx hb dX3_readPart_52 (by decide) ?_
          refine lv_iadd hx hb dX3_readPart_53 ?_
          obtain ⟨⟨b_2, pl_2, x_2⟩, hy_2⟩ : ∃ z9, E pl_1 x = z9 := ⟨_, rfl⟩
          refine wr_call (va_runV (As := [.ref (A 0), .int (op + 1)]) (rest := []) hC (cRec.at hE pl_1 x b_2 pl_2 x_2 hy_2) (cwV 2 hts gX3_readPart_X3_readEither rfl rfl rfl kd_X3_readEither ⟨(show 12 + 3 * d + 1 ≤ 10 + 3 * (d + 1) by omega), (show 8 + (4 + 11) + (380 + 120 * d) ≤ 300 + 120 * (d + 1) by omega)⟩) (a_preV hK hZ f_s.1.1 rfl f_s) rfl rfl hl.1 rfl (lv_room (Nat.le_of_ble_eq_true rfl)) dX3_readPart_54 ⟨Nat.zero_le _, Nat.zero_le _⟩) hS (fun q h => h) (fun H locs f_n hq hS => ?_)
          have hZ := hZ.kept (fun a9 h9 => hq a9 (fun z9 => h9 (hAZ a9 ((fun q h => h) a9 z9))))
          have f_s := f_n
          refine bz_eq (tgt := 73) hx hb dX3_readPart_57 (by decide) (fun h_9 => ?_) (fun h_9 => ?_)
          · refine lv_iconst (v := 0) hx hb dX3_readPart_73 (by decide) ?_
            have hE9 : q_partS sz bt P E pl x = (false, pl_2, x_2) := (by (try unfold q_partS); (repeat rw [if_neg h_1]); (try rw [hy_0]); (try dsimp only); (repeat rw [if_neg h_2]); (repeat rw [if_neg h_3]); (try rw [hy_1]); (try dsimp only); (repeat rw [if_pos h_4]); (try rw [hy_2]); (try dsimp only); (repeat rw [if_neg h_9]); first | done | rfl)
            exact wr_zret hx hb hr hlocks dX3_readPart_74 hS (by rw [hE9]; exact f_s) (by rw [hE9]; first | done | rfl)
          · refine lv_aload_n hx hb dX3_readPart_60 rfl (lv_at hl 0 rfl) ?_
            refine lv_bipush (v := 41) hx hb dX3_readPart_61 (by decide +kernel) ?_
            obtain ⟨⟨b_3, pl_3⟩, hy_3⟩ : ∃ z9, q_take sz bt 41 pl_2 = z9 := ⟨_, rfl⟩
            refine wr_call (va_runV (As := [.int 41]) (rest := []) hC (c2_X3_take l G t0 t1 sz bt pl_2 41 htt b_3 pl_3 hy_3) (cwV 1 hts gX3_readPart_X3_take rfl rfl rfl kd_X3_take ⟨(show 0 + 1 ≤ 10 + 3 * (d + 1) by omega), (show 8 + (2 + 11) + (0) ≤ 300 + 120 * (d + 1) by omega)⟩) (ro_preV hK f_s.1.1 rfl f_s.1) rfl rfl hl.1 rfl (lv_room (Nat.le_of_ble_eq_true rfl)) dX3_readPart_63 ⟨Nat.zero_le _, Nat.zero_le _⟩) hS (fun q h => Or.inl h) (fun H locs f_n hq hS => ?_)
            have hZ := hZ.kept (fun a9 h9 => hq a9 (fun z9 => h9 (hAZ a9 ((fun q h => Or.inl h) a9 z9))))
            have f_s := (⟨f_n, f_s.2.kept (fun j hj => hq _ (hNt.1 j hj))⟩ : PsAt G t0 t1 A sz bt pl_3 x_2 H)
            refine join_wr (nL := 6) 74 [(0, .ref t0), (1, .ref (A 0)), (2, .int op)] [.int (b2i (if b_3 = true then true else false))] (fun H locs => (PsAt G t0 t1 A sz bt pl_3 x_2 H) ∧ wS (psA t0 A) s.heap H locs ∧ amK Z s H) (fun H locs hI ls hl => ?_) (fun J_10 => ?_)
            · obtain ⟨f_s, hS, hZ⟩ := hI
              have hE9 : q_partS sz bt P E pl x = ((if b_3 = true then true else false), pl_3, x_2) := (by (try unfold q_partS); (repeat rw [if_neg h_1]); (try rw [hy_0]); (try dsimp only); (repeat rw [if_neg h_2]); (repeat rw [if_neg h_3]); (try rw [hy_1]); (try dsimp only); (repeat rw [if_pos h_4]); (try rw [hy_2]); (try dsimp only); (repeat rw [if_pos h_9]); (try rw [hy_3]); (try dsimp only); first | done | rfl)
              exact wr_zret hx hb hr hlocks dX3_readPart_74 hS (by rw [hE9]; exact f_s) (by rw [hE9]; first | done | rfl)
            · refine bz_eq (tgt := 73) hx hb dX3_readPart_66 (by decide) (fun h_11 => ?_) (fun h_11 => ?_)
              · refine lv_iconst (v := 0) hx hb dX3_readPart_73 (by decide) ?_
                have hJ := J_10; (repeat rw [if_neg h_11] at hJ)
                first | exact hJ _ _ ⟨f_s, hS, hZ⟩ ls (lv_sub hl [0, 1, 2] rfl) | ((repeat rw [if_neg h_11] at hl); (repeat rw [if_neg h_11]); exact hJ _ _ ⟨f_s, hS, hZ⟩ ls (lv_sub hl [0, 1, 2] rfl))
              · refine lv_iconst (v := 1) hx hb dX3_readPart_69 (by decide) ?_
                refine lv_goto (tgt := 74) hx hb dX3_readPart_70 (by decide) ?_
                have hJ := J_10; (repeat rw [if_pos h_11] at hJ)
                first | exact hJ _ _ ⟨f_s, hS, hZ⟩ ls (lv_sub hl [0, 1, 2] rfl) | ((repeat rw [if_pos h_11] at hl); (repeat rw [if_pos h_11]); exact hJ _ _ ⟨f_s, hS, hZ⟩ ls (lv_sub hl [0, 1, 2] rfl))
    · refine lv_aload_n hx hb dX3_readPart_14 rfl (lv_at hl 0 rfl) ?_
      refine lv_aload_n hx hb dX3_readPart_15 rfl (lv_at hl 1 rfl) ?_
      refine lv_iload_n hx hb dX3_readPart_16 rfl (lv_at hl 2 rfl) ?_
      refine lv_iconst (v := 1) hx hb dX3_readPart_17 (by decide) ?_
      refine lv_iadd hx hb dX3_readPart_18 ?_
      obtain ⟨⟨b_1, pl_1, x_1⟩, hy_1⟩ : ∃ z9, P pl_0 x = z9 := ⟨_, rfl⟩
      refine wr_call (va_runV (As := [.ref (A 0), .int (op + 1)]) (rest := []) hC (cRec.at hP pl_0 x b_1 pl_1 x_1 hy_1) (cwV 2 hts gX3_readPart_X3_readPart rfl rfl rfl kd_X3_readPart ⟨(show 10 + 3 * d + 1 ≤ 10 + 3 * (d + 1) by omega), (show 8 + (6 + 11) + (300 + 120 * d) ≤ 300 + 120 * (d + 1) by omega)⟩) (a_preV hK hZ f_s.1.1 rfl f_s) rfl rfl hl.1 rfl (lv_room (Nat.le_of_ble_eq_true rfl)) dX3_readPart_19 ⟨Nat.zero_le _, Nat.zero_le _⟩) hS (fun q h => h) (fun H locs f_n hq hS => ?_)
      have hZ := hZ.kept (fun a9 h9 => hq a9 (fun z9 => h9 (hAZ a9 ((fun q h => h) a9 z9))))
      have f_s := f_n
      refine bz_ne (tgt := 27) hx hb dX3_readPart_22 (by decide) (fun h_12 => ?_) (fun h_12 => ?_)
      · refine lv_aload_n hx hb dX3_readPart_27 rfl (lv_at hl 1 rfl) ?_
        refine lv_bipush (v := (-3)) hx hb dX3_readPart_28 (by decide +kernel) ?_
        refine wr_callv (va_runV (As := [.int (-3)]) (rest := []) hC (c_X1_addStep l G A x_1 (-3) hNl) (cwV 1 hts gX3_readPart_X1_addStep rfl rfl rfl kd_X1_addStep ⟨(show 0 + 1 ≤ 10 + 3 * (d + 1) by omega), (show 8 + (2 + 11) + (0) ≤ 300 + 120 * (d + 1) by omega)⟩) (ro_preV hK f_s.2.1 rfl f_s.2) rfl rfl hl.1 rfl (lv_room (Nat.le_of_ble_eq_true rfl)) dX3_readPart_30 ⟨Nat.zero_le _, Nat.zero_le _⟩) hS (fun q h => Or.inr h) (fun H locs f_n hq hS => ?_)
        have hZ := hZ.kept (fun a9 h9 => hq a9 (fun z9 => h9 (hAZ a9 ((fun q h => Or.inr h) a9 z9))))
        have f_s := (⟨f_s.1.kept (hq _ hNt.a0) (hq _ hNt.a1), f_n⟩ : PsAt G t0 t1 A sz bt pl_1 (g_addStep x_1 (-3)) H)
        refine lv_iconst (v := 1) hx hb dX3_readPart_33 (by decide) ?_
        have hE9 : q_partS sz bt P E pl x = (true, pl_1, (g_addStep x_1 (-3))) := (by (try unfold q_partS); (repeat rw [if_neg h_1]); (try rw [hy_0]); (try dsimp only); (repeat rw [if_pos h_2]); (try rw [hy_1]); (try dsimp only); (repeat rw [if_pos h_12]); first | done | rfl)
        exact wr_zret hx hb hr hlocks dX3_readPart_34 hS (by rw [hE9]; exact f_s) (by rw [hE9]; first | done | rfl)
      · refine lv_iconst (v := 0) hx hb dX3_readPart_25 (by decide) ?_
        have hE9 : q_partS sz bt P E pl x = (false, pl_1, x_1) := (by (try unfold q_partS); (repeat rw [if_neg h_1]); (try rw [hy_0]); (try dsimp only); (repeat rw [if_pos h_2]); (try rw [hy_1]); (try dsimp only); (repeat rw [if_neg h_12]); first | done | rfl)
        exact wr_zret hx hb hr hlocks dX3_readPart_26 hS (by rw [hE9]; exact f_s) (by rw [hE9]; first | done | rfl)
theorem c2_X3_readPart_s (l : Launch) (G : GG) (Z : AM) (t0 t1 : Nat) (A : Nat → Nat) (sz : Nat) (bt : Nat → Int32) (pl : Nat) (x : LawT) (op : Int32) (d : Nat) (P E : PF) (htt : t0 ≠ t1) (hNl : lwN A) (hNt : psN t0 t1 A) (hAZ : ∀ q : Nat, psA t0 A q → Z.1 q) (hop : ¬ 5 ≤ op) (hP : cRec l G Z t0 t1 A sz bt yX3_readPart wsX3_readPart { frames := 10 + 3 * d, cells := 0, slots := 0, locals := 300 + 120 * d } (op + 1) P) (hE : cRec l G Z t0 t1 A sz bt yX3_readEither wsX3_readEither { frames := 12 + 3 * d, cells := 0, slots := 0, locals := 380 + 120 * d } (op + 1) E) (b9 : Bool) (pl9 : Nat) (x9 : LawT) (hy9 : q_partS sz bt P E pl x = (b9, pl9, x9)) : Met l yX3_readPart wsX3_readPart { frames := 10 + 3 * (d + 1), cells := 0, slots := 0, locals := 300 + 120 * (d + 1) } (aP G Z [.ref t0, .ref (A 0), .int op] (fun H => PsAt G t0 t1 A sz bt pl x H)) (wrQ (some (.int (b2i b9))) (fun H => PsAt G t0 t1 A sz bt pl9 x9 H) (psA t0 A)) 0 0 (psA t0 A) := by
  have h9 := c_X3_readPart_s l G Z t0 t1 A sz bt pl x op d P E htt hNl hNt hAZ hop hP hE
  rw [hy9] at h9
  exact h9
def q_bothGo (sz : Nat) (bt : Nat → Int32) (P : PF) : Nat → Nat → Nat → LawT → Bool × Nat × LawT
  | 0, _, pl_k, x_k => (true, pl_k, x_k)
  | n + 1, k, pl_k, x_k => (match q_take sz bt 38 pl_k with | (b_1, pl_1) => if b_1 = true then (match P pl_1 x_k with | (b_2, pl_2, x_2) => if b_2 = true then q_bothGo sz bt P n (k + 1) pl_2 (g_addStep x_2 (-1)) else (false, pl_2, x_2)) else (true, pl_1, x_k))
theorem q_bothGo_0 (sz : Nat) (bt : Nat → Int32) (P : PF) (k : Nat) (pl_k : Nat) (x_k : LawT) : q_bothGo sz bt P 0 k pl_k x_k = ((true, pl_k, x_k)) := rfl
theorem q_bothGo_s (sz : Nat) (bt : Nat → Int32) (P : PF) (n k : Nat) (pl_k : Nat) (x_k : LawT) : q_bothGo sz bt P (n + 1) k pl_k x_k = ((match q_take sz bt 38 pl_k with | (b_1, pl_1) => if b_1 = true then (match P pl_1 x_k with | (b_2, pl_2, x_2) => if b_2 = true then q_bothGo sz bt P n (k + 1) pl_2 (g_addStep x_2 (-1)) else (false, pl_2, x_2)) else (true, pl_1, x_k))) := rfl
def q_both (sz : Nat) (bt : Nat → Int32) (P : PF) (pl : Nat) (x : LawT) : Bool × Nat × LawT := (match P pl x with | (b_0, pl_0, x_0) => if b_0 = true then q_bothGo sz bt P 120 0 pl_0 x_0 else (false, pl_0, x_0))
set_option maxHeartbeats 4000000 in
set_option maxRecDepth 100000 in
theorem c_X3_readBoth (l : Launch) (G : GG) (Z : AM) (t0 t1 : Nat) (A : Nat → Nat) (sz : Nat) (bt : Nat → Int32) (pl : Nat) (x : LawT) (op : Int32) (d : Nat) (P : PF) (htt : t0 ≠ t1) (hNl : lwN A) (hNt : psN t0 t1 A) (hAZ : ∀ q : Nat, psA t0 A q → Z.1 q) (hP : cRec l G Z t0 t1 A sz bt yX3_readPart wsX3_readPart { frames := 10 + 3 * d, cells := 0, slots := 0, locals := 300 + 120 * d } op P) : Met l yX3_readBoth wsX3_readBoth { frames := 11 + 3 * d, cells := 0, slots := 0, locals := 340 + 120 * d } (aP G Z [.ref t0, .ref (A 0), .int op] (fun H => PsAt G t0 t1 A sz bt pl x H)) (wrQ (some (.int (b2i ((q_both sz bt P pl x).1)))) (fun H => PsAt G t0 t1 A sz bt ((q_both sz bt P pl x).2.1) ((q_both sz bt P pl x).2.2) H) (psA t0 A)) 0 0 (psA t0 A) := by
  refine Met.ofW (cc := cX3_readBoth) (maxL := 4) (ret := (some .boolean)) (by decide) rfl ?_
  intro p e s m args below meth c s₁ Bd hml hv
  obtain ⟨rfl, hK, hZ, hB⟩ := hv
  have hx := Bd.exec
  have hb := Bd.bytes
  have hr := Bd.returns
  have hts := atoms_spec (ws := wsX3_readBoth) Bd.pre
  have hown : s.vm.findClass RX3 = some m.cls := findClass_of_methodNamed Bd.named
  have hlocks := Bd.notSynchronized
  have hC : CallFix p m c cX3_readBoth 4 s _ wsX3_readBoth RX3 := ⟨hx, hb, hml, hown, hts⟩
  have hl := lv_entry ([.ref t0, .ref (A 0), .int op]) (n := 4) (Nat.le_of_ble_eq_true rfl)
  rw [lg_entry_eq]
  generalize (lg_sl ([.ref t0, .ref (A 0), .int op]) ++ List.replicate (4 - (lg_sl ([.ref t0, .ref (A 0), .int op])).length) Slot.unset).toArray = ls at hl ⊢
  have hl : lv_has ls 4 [(0, .ref t0), (1, .ref (A 0)), (2, .int op)] := hl
  have hS : wS (psA t0 A) s.heap s.heap [] := wS.rf
  have f_s := hB
  refine lv_aload_n hx hb dX3_readBoth_0 rfl (lv_at hl 0 rfl) ?_
  refine lv_aload_n hx hb dX3_readBoth_1 rfl (lv_at hl 1 rfl) ?_
  refine lv_iload_n hx hb dX3_readBoth_2 rfl (lv_at hl 2 rfl) ?_
  obtain ⟨⟨b_0, pl_0, x_0⟩, hy_0⟩ : ∃ z9, P pl x = z9 := ⟨_, rfl⟩
  refine wr_call (va_runV (As := [.ref (A 0), .int op]) (rest := []) hC (cRec.at hP pl x b_0 pl_0 x_0 hy_0) (cwV 2 hts gX3_readBoth_X3_readPart rfl rfl rfl kd_X3_readPart ⟨(show 10 + 3 * d + 1 ≤ 11 + 3 * d by omega), (show 8 + (6 + 11) + (300 + 120 * d) ≤ 340 + 120 * d by omega)⟩) (a_preV hK hZ f_s.1.1 rfl f_s) rfl rfl hl.1 rfl (lv_room (Nat.le_of_ble_eq_true rfl)) dX3_readBoth_3 ⟨Nat.zero_le _, Nat.zero_le _⟩) hS (fun q h => h) (fun H locs f_n hq hS => ?_)
  have hZ := hZ.kept (fun a9 h9 => hq a9 (fun z9 => h9 (hAZ a9 ((fun q h => h) a9 z9))))
  have f_s := f_n
  refine bz_ne (tgt := 11) hx hb dX3_readBoth_6 (by decide) (fun h_1 => ?_) (fun h_1 => ?_)
  · refine lv_iconst (v := 0) hx hb dX3_readBoth_11 (by decide) ?_
    refine lv_istore_n (lv' := [(3, .int 0), (0, .ref t0), (1, .ref (A 0)), (2, .int op)]) hx hb dX3_readBoth_12 rfl hl (by decide) rfl (fun ls hl => ?_)
    refine loop_wr (nL := 4) (α := Nat × Nat × LawT) (fun a9 => [(0, .ref t0), (1, .ref (A 0)), (2, .int op), (3, .int (nI (a9.1)))]) (fun a9 H locs => (a9.1 ≤ 120 ∧ q_bothGo sz bt P (120 - a9.1) a9.1 a9.2.1 a9.2.2 = q_bothGo sz bt P 120 0 pl_0 x_0) ∧ (PsAt G t0 t1 A sz bt (a9.2.1) (a9.2.2) H) ∧ wS (psA t0 A) s.heap H locs ∧ amK Z s H) (fun a9 => 120 - a9.1) (0, pl_0, x_0) ⟨⟨(by first | exact Nat.zero_le _ | decide | omega), rfl⟩, f_s, hS, hZ⟩ (lv_sub hl [1, 2, 3, 0] rfl) (fun a9 H locs hI9 ih_k ls hl => ?_)
    obtain ⟨k, pl_k, x_k⟩ := a9
    obtain ⟨hI9, f_s, hS, hZ⟩ := hI9
    have f_s : PsAt G t0 t1 A sz bt pl_k x_k H := f_s
    obtain ⟨hk_k, hV⟩ : k ≤ 120 ∧ q_bothGo sz bt P (120 - k) k pl_k x_k = q_bothGo sz bt P 120 0 pl_0 x_0 := hI9
    have hl : lv_has ls 4 [(0, .ref t0), (1, .ref (A 0)), (2, .int op), (3, .int (nI k))] := hl
    refine lv_iload_n hx hb dX3_readBoth_13 rfl (lv_at hl 3 rfl) ?_
    refine lv_bipush (v := 120) hx hb dX3_readBoth_14 (by decide +kernel) ?_
    refine lv_icmp_ge (tgt := 50) hx hb dX3_readBoth_16 (by decide) (fun h_2 => ?_) (fun h_2 => ?_)
    · have hN_k : k = 120 := ge_ex (N := 120) rfl h_2 hk_k (by omega)
      subst hN_k
      rw [Nat.sub_self] at hV
      refine lv_iconst (v := 1) hx hb dX3_readBoth_50 (by decide) ?_
      have hE9 : q_both sz bt P pl x = (true, pl_k, x_k) := (by (try unfold q_both); (try rw [hy_0]); (try dsimp only); (repeat rw [if_pos h_1]); rw [← hV, q_bothGo_0]; first | done | rfl)
      exact wr_zret hx hb hr hlocks dX3_readBoth_51 hS (by rw [hE9]; exact f_s) (by rw [hE9]; first | done | rfl)
    · have hlt_k : k < 120 := ge_in (N := 120) rfl h_2 hk_k (by omega)
      obtain ⟨n9, hn9⟩ : ∃ n9, 120 - k = n9 + 1 := ⟨120 - k - 1, by omega⟩
      rw [hn9] at hV
      refine lv_aload_n hx hb dX3_readBoth_19 rfl (lv_at hl 0 rfl) ?_
      refine lv_bipush (v := 38) hx hb dX3_readBoth_20 (by decide +kernel) ?_
      obtain ⟨⟨b_1, pl_1⟩, hy_1⟩ : ∃ z9, q_take sz bt 38 pl_k = z9 := ⟨_, rfl⟩
      refine wr_call (va_runV (As := [.int 38]) (rest := []) hC (c2_X3_take l G t0 t1 sz bt pl_k 38 htt b_1 pl_1 hy_1) (cwV 1 hts gX3_readBoth_X3_take rfl rfl rfl kd_X3_take ⟨(show 0 + 1 ≤ 11 + 3 * d by omega), (show 8 + (2 + 11) + (0) ≤ 340 + 120 * d by omega)⟩) (ro_preV hK f_s.1.1 rfl f_s.1) rfl rfl hl.1 rfl (lv_room (Nat.le_of_ble_eq_true rfl)) dX3_readBoth_22 ⟨Nat.zero_le _, Nat.zero_le _⟩) hS (fun q h => Or.inl h) (fun H locs f_n hq hS => ?_)
      have hZ := hZ.kept (fun a9 h9 => hq a9 (fun z9 => h9 (hAZ a9 ((fun q h => Or.inl h) a9 z9))))
      have f_s := (⟨f_n, f_s.2.kept (fun j hj => hq _ (hNt.1 j hj))⟩ : PsAt G t0 t1 A sz bt pl_1 x_k H)
      refine bz_eq (tgt := 50) hx hb dX3_readBoth_25 (by decide) (fun h_3 => ?_) (fun h_3 => ?_)
      · refine lv_iconst (v := 1) hx hb dX3_readBoth_50 (by decide) ?_
        have hE9 : q_both sz bt P pl x = (true, pl_1, x_k) := (by (try unfold q_both); (try rw [hy_0]); (try dsimp only); (repeat rw [if_pos h_1]); rw [← hV, q_bothGo_s]; (repeat rw [if_neg h_2]); (try rw [hy_1]); (try dsimp only); (repeat rw [if_neg h_3]); first | done | rfl)
        exact wr_zret hx hb hr hlocks dX3_readBoth_51 hS (by rw [hE9]; exact f_s) (by rw [hE9]; first | done | rfl)
      · refine lv_aload_n hx hb dX3_readBoth_28 rfl (lv_at hl 0 rfl) ?_
        refine lv_aload_n hx hb dX3_readBoth_29 rfl (lv_at hl 1 rfl) ?_
        refine lv_iload_n hx hb dX3_readBoth_30 rfl (lv_at hl 2 rfl) ?_
        obtain ⟨⟨b_2, pl_2, x_2⟩, hy_2⟩ : ∃ z9, P pl_1 x_k = z9 := ⟨_, rfl⟩
        refine wr_call (va_runV (As := [.ref (A 0), .int op]) (rest := []) hC (cRec.at hP pl_1 x_k b_2 pl_2 x_2 hy_2) (cwV 2 hts gX3_readBoth_X3_readPart rfl rfl rfl kd_X3_readPart ⟨(show 10 + 3 * d + 1 ≤ 11 + 3 * d by omega), (show 8 + (6 + 11) + (300 + 120 * d) ≤ 340 + 120 * d by omega)⟩) (a_preV hK hZ f_s.1.1 rfl f_s) rfl rfl hl.1 rfl (lv_room (Nat.le_of_ble_eq_true rfl)) dX3_readBoth_31 ⟨Nat.zero_le _, Nat.zero_le _⟩) hS (fun q h => h) (fun H locs f_n hq hS => ?_)
        have hZ := hZ.kept (fun a9 h9 => hq a9 (fun z9 => h9 (hAZ a9 ((fun q h => h) a9 z9))))
        have f_s := f_n
        refine bz_ne (tgt := 39) hx hb dX3_readBoth_34 (by decide) (fun h_4 => ?_) (fun h_4 => ?_)
        · refine lv_aload_n hx hb dX3_readBoth_39 rfl (lv_at hl 1 rfl) ?_
          refine lv_iconst (v := (-1)) hx hb dX3_readBoth_40 (by decide) ?_
          refine wr_callv (va_runV (As := [.int (-1)]) (rest := []) hC (c_X1_addStep l G A x_2 (-1) hNl) (cwV 1 hts gX3_readBoth_X1_addStep rfl rfl rfl kd_X1_addStep ⟨(show 0 + 1 ≤ 11 + 3 * d by omega), (show 8 + (2 + 11) + (0) ≤ 340 + 120 * d by omega)⟩) (ro_preV hK f_s.2.1 rfl f_s.2) rfl rfl hl.1 rfl (lv_room (Nat.le_of_ble_eq_true rfl)) dX3_readBoth_41 ⟨Nat.zero_le _, Nat.zero_le _⟩) hS (fun q h => Or.inr h) (fun H locs f_n hq hS => ?_)
          have hZ := hZ.kept (fun a9 h9 => hq a9 (fun z9 => h9 (hAZ a9 ((fun q h => Or.inr h) a9 z9))))
          have f_s := (⟨f_s.1.kept (hq _ hNt.a0) (hq _ hNt.a1), f_n⟩ : PsAt G t0 t1 A sz bt pl_2 (g_addStep x_2 (-1)) H)
          refine lv_iinc (v := (nI k) + 1) (lv' := [(3, .int ((nI k) + 1)), (0, .ref t0), (1, .ref (A 0)), (2, .int op)]) hx hb dX3_readBoth_44 hl (k := 3) rfl rfl (by decide) rfl (fun ls hl => ?_)
          refine lv_goto (tgt := 13) hx hb dX3_readBoth_47 (by decide) ?_
          have hE : q_bothGo sz bt P n9 (k + 1) pl_2 (g_addStep x_2 (-1)) = q_bothGo sz bt P 120 0 pl_0 x_0 := (by rw [← hV, q_bothGo_s]; (try rw [hy_1]); (try dsimp only); (repeat rw [if_pos h_3]); (try rw [hy_2]); (try dsimp only); (repeat rw [if_pos h_4]); first | done | rfl)
          refine ih_k ((k + 1, pl_2, (g_addStep x_2 (-1)))) _ _ ⟨⟨(show k + 1 ≤ 120 by omega), (by show q_bothGo sz bt P (120 - (k + 1)) (k + 1) pl_2 (g_addStep x_2 (-1)) = _; rw [show 120 - (k + 1) = n9 by omega]; exact hE)⟩, f_s, hS, hZ⟩ (show 120 - (k + 1) < 120 - k by omega) ls ?_
          show lv_has ls 4 [(0, .ref t0), (1, .ref (A 0)), (2, .int op), (3, .int (nI (k + 1)))]
          rw [nI_succ]
          exact lv_sub hl [1, 2, 3, 0] rfl
        · refine lv_iconst (v := 0) hx hb dX3_readBoth_37 (by decide) ?_
          have hE9 : q_both sz bt P pl x = (false, pl_2, x_2) := (by (try unfold q_both); (try rw [hy_0]); (try dsimp only); (repeat rw [if_pos h_1]); rw [← hV, q_bothGo_s]; (repeat rw [if_neg h_2]); (try rw [hy_1]); (try dsimp only); (repeat rw [if_pos h_3]); (try rw [hy_2]); (try dsimp only); (repeat rw [if_neg h_4]); first | done | rfl)
          exact wr_zret hx hb hr hlocks dX3_readBoth_38 hS (by rw [hE9]; exact f_s) (by rw [hE9]; first | done | rfl)
  · refine lv_iconst (v := 0) hx hb dX3_readBoth_9 (by decide) ?_
    have hE9 : q_both sz bt P pl x = (false, pl_0, x_0) := (by (try unfold q_both); (try rw [hy_0]); (try dsimp only); (repeat rw [if_neg h_1]); first | done | rfl)
    exact wr_zret hx hb hr hlocks dX3_readBoth_10 hS (by rw [hE9]; exact f_s) (by rw [hE9]; first | done | rfl)
theorem c2_X3_readBoth (l : Launch) (G : GG) (Z : AM) (t0 t1 : Nat) (A : Nat → Nat) (sz : Nat) (bt : Nat → Int32) (pl : Nat) (x : LawT) (op : Int32) (d : Nat) (P : PF) (htt : t0 ≠ t1) (hNl : lwN A) (hNt : psN t0 t1 A) (hAZ : ∀ q : Nat, psA t0 A q → Z.1 q) (hP : cRec l G Z t0 t1 A sz bt yX3_readPart wsX3_readPart { frames := 10 + 3 * d, cells := 0, slots := 0, locals := 300 + 120 * d } op P) (b9 : Bool) (pl9 : Nat) (x9 : LawT) (hy9 : q_both sz bt P pl x = (b9, pl9, x9)) : Met l yX3_readBoth wsX3_readBoth { frames := 11 + 3 * d, cells := 0, slots := 0, locals := 340 + 120 * d } (aP G Z [.ref t0, .ref (A 0), .int op] (fun H => PsAt G t0 t1 A sz bt pl x H)) (wrQ (some (.int (b2i b9))) (fun H => PsAt G t0 t1 A sz bt pl9 x9 H) (psA t0 A)) 0 0 (psA t0 A) := by
  have h9 := c_X3_readBoth l G Z t0 t1 A sz bt pl x op d P htt hNl hNt hAZ hP
  rw [hy9] at h9
  exact h9
theorem kd_X3_readBoth : yX3_readBoth.cls = RX3 ∧ yX3_readBoth.cls ≠ "java/lang/invoke/MethodHandle" ∧ yX3_readBoth.cls ≠ "java/lang/invoke/VarHandle" ∧ (parseMethodDescriptor yX3_readBoth.desc).map (fun d => d.parameters.length) = some 2 := by decide +kernel
def q_eithGo (sz : Nat) (bt : Nat → Int32) (B9 : PF) : Nat → Nat → Nat → LawT → Bool × Nat × LawT
  | 0, _, pl_k, x_k => (true, pl_k, x_k)
  | n + 1, k, pl_k, x_k => (match q_take sz bt 124 pl_k with | (b_1, pl_1) => if b_1 = true then (match B9 pl_1 x_k with | (b_2, pl_2, x_2) => if b_2 = true then q_eithGo sz bt B9 n (k + 1) pl_2 (g_addStep x_2 (-2)) else (false, pl_2, x_2)) else (true, pl_1, x_k))
theorem q_eithGo_0 (sz : Nat) (bt : Nat → Int32) (B9 : PF) (k : Nat) (pl_k : Nat) (x_k : LawT) : q_eithGo sz bt B9 0 k pl_k x_k = ((true, pl_k, x_k)) := rfl
theorem q_eithGo_s (sz : Nat) (bt : Nat → Int32) (B9 : PF) (n k : Nat) (pl_k : Nat) (x_k : LawT) : q_eithGo sz bt B9 (n + 1) k pl_k x_k = ((match q_take sz bt 124 pl_k with | (b_1, pl_1) => if b_1 = true then (match B9 pl_1 x_k with | (b_2, pl_2, x_2) => if b_2 = true then q_eithGo sz bt B9 n (k + 1) pl_2 (g_addStep x_2 (-2)) else (false, pl_2, x_2)) else (true, pl_1, x_k))) := rfl
def q_either (sz : Nat) (bt : Nat → Int32) (B9 : PF) (pl : Nat) (x : LawT) : Bool × Nat × LawT := (match B9 pl x with | (b_0, pl_0, x_0) => if b_0 = true then q_eithGo sz bt B9 120 0 pl_0 x_0 else (false, pl_0, x_0))
set_option maxHeartbeats 4000000 in
set_option maxRecDepth 100000 in
theorem c_X3_readEither (l : Launch) (G : GG) (Z : AM) (t0 t1 : Nat) (A : Nat → Nat) (sz : Nat) (bt : Nat → Int32) (pl : Nat) (x : LawT) (op : Int32) (d : Nat) (B9 : PF) (htt : t0 ≠ t1) (hNl : lwN A) (hNt : psN t0 t1 A) (hAZ : ∀ q : Nat, psA t0 A q → Z.1 q) (hBo : cRec l G Z t0 t1 A sz bt yX3_readBoth wsX3_readBoth { frames := 11 + 3 * d, cells := 0, slots := 0, locals := 340 + 120 * d } op B9) : Met l yX3_readEither wsX3_readEither { frames := 12 + 3 * d, cells := 0, slots := 0, locals := 380 + 120 * d } (aP G Z [.ref t0, .ref (A 0), .int op] (fun H => PsAt G t0 t1 A sz bt pl x H)) (wrQ (some (.int (b2i ((q_either sz bt B9 pl x).1)))) (fun H => PsAt G t0 t1 A sz bt ((q_either sz bt B9 pl x).2.1) ((q_either sz bt B9 pl x).2.2) H) (psA t0 A)) 0 0 (psA t0 A) := by
  refine Met.ofW (cc := cX3_readEither) (maxL := 4) (ret := (some .boolean)) (by decide) rfl ?_
  intro p e s m args below meth c s₁ Bd hml hv
  obtain ⟨rfl, hK, hZ, hB⟩ := hv
  have hx := Bd.exec
  have hb := Bd.bytes
  have hr := Bd.returns
  have hts := atoms_spec (ws := wsX3_readEither) Bd.pre
  have hown : s.vm.findClass RX3 = some m.cls := findClass_of_methodNamed Bd.named
  have hlocks := Bd.notSynchronized
  have hC : CallFix p m c cX3_readEither 4 s _ wsX3_readEither RX3 := ⟨hx, hb, hml, hown, hts⟩
  have hl := lv_entry ([.ref t0, .ref (A 0), .int op]) (n := 4) (Nat.le_of_ble_eq_true rfl)
  rw [lg_entry_eq]
  generalize (lg_sl ([.ref t0, .ref (A 0), .int op]) ++ List.replicate (4 - (lg_sl ([.ref t0, .ref (A 0), .int op])).length) Slot.unset).toArray = ls at hl ⊢
  have hl : lv_has ls 4 [(0, .ref t0), (1, .ref (A 0)), (2, .int op)] := hl
  have hS : wS (psA t0 A) s.heap s.heap [] := wS.rf
  have f_s := hB
  refine lv_aload_n hx hb dX3_readEither_0 rfl (lv_at hl 0 rfl) ?_
  refine lv_aload_n hx hb dX3_readEither_1 rfl (lv_at hl 1 rfl) ?_
  refine lv_iload_n hx hb dX3_readEither_2 rfl (lv_at hl 2 rfl) ?_
  obtain ⟨⟨b_0, pl_0, x_0⟩, hy_0⟩ : ∃ z9, B9 pl x = z9 := ⟨_, rfl⟩
  refine wr_call (va_runV (As := [.ref (A 0), .int op]) (rest := []) hC (cRec.at hBo pl x b_0 pl_0 x_0 hy_0) (cwV 2 hts gX3_readEither_X3_readBoth rfl rfl rfl kd_X3_readBoth ⟨(show 11 + 3 * d + 1 ≤ 12 + 3 * d by omega), (show 8 + (4 + 11) + (340 + 120 * d) ≤ 380 + 120 * d by omega)⟩) (a_preV hK hZ f_s.1.1 rfl f_s) rfl rfl hl.1 rfl (lv_room (Nat.le_of_ble_eq_true rfl)) dX3_readEither_3 ⟨Nat.zero_le _, Nat.zero_le _⟩) hS (fun q h => h) (fun H locs f_n hq hS => ?_)
  have hZ := hZ.kept (fun a9 h9 => hq a9 (fun z9 => h9 (hAZ a9 ((fun q h => h) a9 z9))))
  have f_s := f_n
  refine bz_ne (tgt := 11) hx hb dX3_readEither_6 (by decide) (fun h_1 => ?_) (fun h_1 => ?_)
  · refine lv_iconst (v := 0) hx hb dX3_readEither_11 (by decide) ?_
    refine lv_istore_n (lv' := [(3, .int 0), (0, .ref t0), (1, .ref (A 0)), (2, .int op)]) hx hb dX3_readEither_12 rfl hl (by decide) rfl (fun ls hl => ?_)
    refine loop_wr (nL := 4) (α := Nat × Nat × LawT) (fun a9 => [(0, .ref t0), (1, .ref (A 0)), (2, .int op), (3, .int (nI (a9.1)))]) (fun a9 H locs => (a9.1 ≤ 120 ∧ q_eithGo sz bt B9 (120 - a9.1) a9.1 a9.2.1 a9.2.2 = q_eithGo sz bt B9 120 0 pl_0 x_0) ∧ (PsAt G t0 t1 A sz bt (a9.2.1) (a9.2.2) H) ∧ wS (psA t0 A) s.heap H locs ∧ amK Z s H) (fun a9 => 120 - a9.1) (0, pl_0, x_0) ⟨⟨(by first | exact Nat.zero_le _ | decide | omega), rfl⟩, f_s, hS, hZ⟩ (lv_sub hl [1, 2, 3, 0] rfl) (fun a9 H locs hI9 ih_k ls hl => ?_)
    obtain ⟨k, pl_k, x_k⟩ := a9
    obtain ⟨hI9, f_s, hS, hZ⟩ := hI9
    have f_s : PsAt G t0 t1 A sz bt pl_k x_k H := f_s
    obtain ⟨hk_k, hV⟩ : k ≤ 120 ∧ q_eithGo sz bt B9 (120 - k) k pl_k x_k = q_eithGo sz bt B9 120 0 pl_0 x_0 := hI9
    have hl : lv_has ls 4 [(0, .ref t0), (1, .ref (A 0)), (2, .int op), (3, .int (nI k))] := hl
    refine lv_iload_n hx hb dX3_readEither_13 rfl (lv_at hl 3 rfl) ?_
    refine lv_bipush (v := 120) hx hb dX3_readEither_14 (by decide +kernel) ?_
    refine lv_icmp_ge (tgt := 51) hx hb dX3_readEither_16 (by decide) (fun h_2 => ?_) (fun h_2 => ?_)
    · have hN_k : k = 120 := ge_ex (N := 120) rfl h_2 hk_k (by omega)
      subst hN_k
      rw [Nat.sub_self] at hV
      refine lv_iconst (v := 1) hx hb dX3_readEither_51 (by decide) ?_
      have hE9 : q_either sz bt B9 pl x = (true, pl_k, x_k) := (by (try unfold q_either); (try rw [hy_0]); (try dsimp only); (repeat rw [if_pos h_1]); rw [← hV, q_eithGo_0]; first | done | rfl)
      exact wr_zret hx hb hr hlocks dX3_readEither_52 hS (by rw [hE9]; exact f_s) (by rw [hE9]; first | done | rfl)
    · have hlt_k : k < 120 := ge_in (N := 120) rfl h_2 hk_k (by omega)
      obtain ⟨n9, hn9⟩ : ∃ n9, 120 - k = n9 + 1 := ⟨120 - k - 1, by omega⟩
      rw [hn9] at hV
      refine lv_aload_n hx hb dX3_readEither_19 rfl (lv_at hl 0 rfl) ?_
      refine lv_bipush (v := 124) hx hb dX3_readEither_20 (by decide +kernel) ?_
      obtain ⟨⟨b_1, pl_1⟩, hy_1⟩ : ∃ z9, q_take sz bt 124 pl_k = z9 := ⟨_, rfl⟩
      refine wr_call (va_runV (As := [.int 124]) (rest := []) hC (c2_X3_take l G t0 t1 sz bt pl_k 124 htt b_1 pl_1 hy_1) (cwV 1 hts gX3_readEither_X3_take rfl rfl rfl kd_X3_take ⟨(show 0 + 1 ≤ 12 + 3 * d by omega), (show 8 + (2 + 11) + (0) ≤ 380 + 120 * d by omega)⟩) (ro_preV hK f_s.1.1 rfl f_s.1) rfl rfl hl.1 rfl (lv_room (Nat.le_of_ble_eq_true rfl)) dX3_readEither_22 ⟨Nat.zero_le _, Nat.zero_le _⟩) hS (fun q h => Or.inl h) (fun H locs f_n hq hS => ?_)
      have hZ := hZ.kept (fun a9 h9 => hq a9 (fun z9 => h9 (hAZ a9 ((fun q h => Or.inl h) a9 z9))))
      have f_s := (⟨f_n, f_s.2.kept (fun j hj => hq _ (hNt.1 j hj))⟩ : PsAt G t0 t1 A sz bt pl_1 x_k H)
      refine bz_eq (tgt := 51) hx hb dX3_readEither_25 (by decide) (fun h_3 => ?_) (fun h_3 => ?_)
      · refine lv_iconst (v := 1) hx hb dX3_readEither_51 (by decide) ?_
        have hE9 : q_either sz bt B9 pl x = (true, pl_1, x_k) := (by (try unfold q_either); (try rw [hy_0]); (try dsimp only); (repeat rw [if_pos h_1]); rw [← hV, q_eithGo_s]; (repeat rw [if_neg h_2]); (try rw [hy_1]); (try dsimp only); (repeat rw [if_neg h_3]); first | done | rfl)
        exact wr_zret hx hb hr hlocks dX3_readEither_52 hS (by rw [hE9]; exact f_s) (by rw [hE9]; first | done | rfl)
      · refine lv_aload_n hx hb dX3_readEither_28 rfl (lv_at hl 0 rfl) ?_
        refine lv_aload_n hx hb dX3_readEither_29 rfl (lv_at hl 1 rfl) ?_
        refine lv_iload_n hx hb dX3_readEither_30 rfl (lv_at hl 2 rfl) ?_
        obtain ⟨⟨b_2, pl_2, x_2⟩, hy_2⟩ : ∃ z9, B9 pl_1 x_k = z9 := ⟨_, rfl⟩
        refine wr_call (va_runV (As := [.ref (A 0), .int op]) (rest := []) hC (cRec.at hBo pl_1 x_k b_2 pl_2 x_2 hy_2) (cwV 2 hts gX3_readEither_X3_readBoth rfl rfl rfl kd_X3_readBoth ⟨(show 11 + 3 * d + 1 ≤ 12 + 3 * d by omega), (show 8 + (4 + 11) + (340 + 120 * d) ≤ 380 + 120 * d by omega)⟩) (a_preV hK hZ f_s.1.1 rfl f_s) rfl rfl hl.1 rfl (lv_room (Nat.le_of_ble_eq_true rfl)) dX3_readEither_31 ⟨Nat.zero_le _, Nat.zero_le _⟩) hS (fun q h => h) (fun H locs f_n hq hS => ?_)
        have hZ := hZ.kept (fun a9 h9 => hq a9 (fun z9 => h9 (hAZ a9 ((fun q h => h) a9 z9))))
        have f_s := f_n
        refine bz_ne (tgt := 39) hx hb dX3_readEither_34 (by decide) (fun h_4 => ?_) (fun h_4 => ?_)
        · refine lv_aload_n hx hb dX3_readEither_39 rfl (lv_at hl 1 rfl) ?_
          refine lv_bipush (v := (-2)) hx hb dX3_readEither_40 (by decide +kernel) ?_
          refine wr_callv (va_runV (As := [.int (-2)]) (rest := []) hC (c_X1_addStep l G A x_2 (-2) hNl) (cwV 1 hts gX3_readEither_X1_addStep rfl rfl rfl kd_X1_addStep ⟨(show 0 + 1 ≤ 12 + 3 * d by omega), (show 8 + (2 + 11) + (0) ≤ 380 + 120 * d by omega)⟩) (ro_preV hK f_s.2.1 rfl f_s.2) rfl rfl hl.1 rfl (lv_room (Nat.le_of_ble_eq_true rfl)) dX3_readEither_42 ⟨Nat.zero_le _, Nat.zero_le _⟩) hS (fun q h => Or.inr h) (fun H locs f_n hq hS => ?_)
          have hZ := hZ.kept (fun a9 h9 => hq a9 (fun z9 => h9 (hAZ a9 ((fun q h => Or.inr h) a9 z9))))
          have f_s := (⟨f_s.1.kept (hq _ hNt.a0) (hq _ hNt.a1), f_n⟩ : PsAt G t0 t1 A sz bt pl_2 (g_addStep x_2 (-2)) H)
          refine lv_iinc (v := (nI k) + 1) (lv' := [(3, .int ((nI k) + 1)), (0, .ref t0), (1, .ref (A 0)), (2, .int op)]) hx hb dX3_readEither_45 hl (k := 3) rfl rfl (by decide) rfl (fun ls hl => ?_)
          refine lv_goto (tgt := 13) hx hb dX3_readEither_48 (by decide) ?_
          have hE : q_eithGo sz bt B9 n9 (k + 1) pl_2 (g_addStep x_2 (-2)) = q_eithGo sz bt B9 120 0 pl_0 x_0 := (by rw [← hV, q_eithGo_s]; (try rw [hy_1]); (try dsimp only); (repeat rw [if_pos h_3]); (try rw [hy_2]); (try dsimp only); (repeat rw [if_pos h_4]); first | done | rfl)
          refine ih_k ((k + 1, pl_2, (g_addStep x_2 (-2)))) _ _ ⟨⟨(show k + 1 ≤ 120 by omega), (by show q_eithGo sz bt B9 (120 - (k + 1)) (k + 1) pl_2 (g_addStep x_2 (-2)) = _; rw [show 120 - (k + 1) = n9 by omega]; exact hE)⟩, f_s, hS, hZ⟩ (show 120 - (k + 1) < 120 - k by omega) ls ?_
          show lv_has ls 4 [(0, .ref t0), (1, .ref (A 0)), (2, .int op), (3, .int (nI (k + 1)))]
          rw [nI_succ]
          exact lv_sub hl [1, 2, 3, 0] rfl
        · refine lv_iconst (v := 0) hx hb dX3_readEither_37 (by decide) ?_
          have hE9 : q_either sz bt B9 pl x = (false, pl_2, x_2) := (by (try unfold q_either); (try rw [hy_0]); (try dsimp only); (repeat rw [if_pos h_1]); rw [← hV, q_eithGo_s]; (repeat rw [if_neg h_2]); (try rw [hy_1]); (try dsimp only); (repeat rw [if_pos h_3]); (try rw [hy_2]); (try dsimp only); (repeat rw [if_neg h_4]); first | done | rfl)
          exact wr_zret hx hb hr hlocks dX3_readEither_38 hS (by rw [hE9]; exact f_s) (by rw [hE9]; first | done | rfl)
  · refine lv_iconst (v := 0) hx hb dX3_readEither_9 (by decide) ?_
    have hE9 : q_either sz bt B9 pl x = (false, pl_0, x_0) := (by (try unfold q_either); (try rw [hy_0]); (try dsimp only); (repeat rw [if_neg h_1]); first | done | rfl)
    exact wr_zret hx hb hr hlocks dX3_readEither_10 hS (by rw [hE9]; exact f_s) (by rw [hE9]; first | done | rfl)
theorem c2_X3_readEither (l : Launch) (G : GG) (Z : AM) (t0 t1 : Nat) (A : Nat → Nat) (sz : Nat) (bt : Nat → Int32) (pl : Nat) (x : LawT) (op : Int32) (d : Nat) (B9 : PF) (htt : t0 ≠ t1) (hNl : lwN A) (hNt : psN t0 t1 A) (hAZ : ∀ q : Nat, psA t0 A q → Z.1 q) (hBo : cRec l G Z t0 t1 A sz bt yX3_readBoth wsX3_readBoth { frames := 11 + 3 * d, cells := 0, slots := 0, locals := 340 + 120 * d } op B9) (b9 : Bool) (pl9 : Nat) (x9 : LawT) (hy9 : q_either sz bt B9 pl x = (b9, pl9, x9)) : Met l yX3_readEither wsX3_readEither { frames := 12 + 3 * d, cells := 0, slots := 0, locals := 380 + 120 * d } (aP G Z [.ref t0, .ref (A 0), .int op] (fun H => PsAt G t0 t1 A sz bt pl x H)) (wrQ (some (.int (b2i b9))) (fun H => PsAt G t0 t1 A sz bt pl9 x9 H) (psA t0 A)) 0 0 (psA t0 A) := by
  have h9 := c_X3_readEither l G Z t0 t1 A sz bt pl x op d B9 htt hNl hNt hAZ hBo
  rw [hy9] at h9
  exact h9
/-- an F, a T, an E inside so many open ones that d more may be opened -/
def q_part (sz : Nat) (bt : Nat → Int32) : Nat → PF
  | 0 => q_partZ sz bt
  | d + 1 => q_partS sz bt (q_part sz bt d) (q_either sz bt (q_both sz bt (q_part sz bt d)))
def q_eith (sz : Nat) (bt : Nat → Int32) (d : Nat) : PF := q_either sz bt (q_both sz bt (q_part sz bt d))
theorem c_part (l : Launch) (G : GG) (Z : AM) (t0 t1 : Nat) (A : Nat → Nat) (sz : Nat) (bt : Nat → Int32) (htt : t0 ≠ t1) (hNl : lwN A) (hNt : psN t0 t1 A) (hAZ : ∀ q : Nat, psA t0 A q → Z.1 q) : ∀ (d o : Nat), o + d = 5 → cRec l G Z t0 t1 A sz bt yX3_readPart wsX3_readPart { frames := 10 + 3 * d, cells := 0, slots := 0, locals := 300 + 120 * d } (nI o) (q_part sz bt d) := by
  intro d
  induction d with
  | zero => exact fun o ho pl x => c_X3_readPart_z l G Z t0 t1 A sz bt pl x (nI o) htt hNl hNt hAZ (by rw [show o = 5 by omega]; decide)
  | succ d ih =>
    intro o ho
    have hP := ih (o + 1) (by omega)
    rw [nI_succ] at hP
    have hB : cRec l G Z t0 t1 A sz bt yX3_readBoth wsX3_readBoth { frames := 11 + 3 * d, cells := 0, slots := 0, locals := 340 + 120 * d } (nI o + 1) (q_both sz bt (q_part sz bt d)) := fun pl x => c_X3_readBoth l G Z t0 t1 A sz bt pl x (nI o + 1) d (q_part sz bt d) htt hNl hNt hAZ hP
    have hE : cRec l G Z t0 t1 A sz bt yX3_readEither wsX3_readEither { frames := 12 + 3 * d, cells := 0, slots := 0, locals := 380 + 120 * d } (nI o + 1) (q_either sz bt (q_both sz bt (q_part sz bt d))) := fun pl x => c_X3_readEither l G Z t0 t1 A sz bt pl x (nI o + 1) d (q_both sz bt (q_part sz bt d)) htt hNl hNt hAZ hB
    exact fun pl x => c_X3_readPart_s l G Z t0 t1 A sz bt pl x (nI o) d (q_part sz bt d) (q_either sz bt (q_both sz bt (q_part sz bt d))) htt hNl hNt hAZ (show ¬ nI 5 ≤ nI o from nI_ge (by omega) (by decide)) hP hE
theorem c_eith (l : Launch) (G : GG) (Z : AM) (t0 t1 : Nat) (A : Nat → Nat) (sz : Nat) (bt : Nat → Int32) (htt : t0 ≠ t1) (hNl : lwN A) (hNt : psN t0 t1 A) (hAZ : ∀ q : Nat, psA t0 A q → Z.1 q) : cRec l G Z t0 t1 A sz bt yX3_readEither wsX3_readEither { frames := 12 + 3 * 5, cells := 0, slots := 0, locals := 380 + 120 * 5 } 0 (q_eith sz bt 5) :=
  fun pl x => c_X3_readEither l G Z t0 t1 A sz bt pl x 0 5 (q_both sz bt (q_part sz bt 5)) htt hNl hNt hAZ (fun pl x => c_X3_readBoth l G Z t0 t1 A sz bt pl x 0 5 (q_part sz bt 5) htt hNl hNt hAZ (c_part l G Z t0 t1 A sz bt htt hNl hNt hAZ 5 0 rfl))
theorem kd_X3_takeAll : yX3_takeAll.cls = RX3 ∧ yX3_takeAll.cls ≠ "java/lang/invoke/MethodHandle" ∧ yX3_takeAll.cls ≠ "java/lang/invoke/VarHandle" ∧ (parseMethodDescriptor yX3_takeAll.desc).map (fun d => d.parameters.length) = some 1 := by decide +kernel
theorem kd_X3_readFrom : yX3_readFrom.cls = RX3 ∧ yX3_readFrom.cls ≠ "java/lang/invoke/MethodHandle" ∧ yX3_readFrom.cls ≠ "java/lang/invoke/VarHandle" ∧ (parseMethodDescriptor yX3_readFrom.desc).map (fun d => d.parameters.length) = some 1 := by decide +kernel
theorem kd_X3_readOver : yX3_readOver.cls = RX3 ∧ yX3_readOver.cls ≠ "java/lang/invoke/MethodHandle" ∧ yX3_readOver.cls ≠ "java/lang/invoke/VarHandle" ∧ (parseMethodDescriptor yX3_readOver.desc).map (fun d => d.parameters.length) = some 1 := by decide +kernel
theorem kd_X3_readSlip : yX3_readSlip.cls = RX3 ∧ yX3_readSlip.cls ≠ "java/lang/invoke/MethodHandle" ∧ yX3_readSlip.cls ≠ "java/lang/invoke/VarHandle" ∧ (parseMethodDescriptor yX3_readSlip.desc).map (fun d => d.parameters.length) = some 1 := by decide +kernel
def q_readClause (sz : Nat) (bt : Nat → Int32) (pl : Nat) (x : LawT) : Bool × Nat × LawT := (match q_take sz bt 102 pl with | (b_0, pl_0) => if b_0 = true then (match q_takeAll sz bt 0 pl_0 with | (b_1, pl_1) => if b_1 = true then (match q_readFrom sz bt pl_1 x with | (b_2, pl_2, x_2) => ((if b_2 = true then true else false), pl_2, x_2)) else (false, pl_1, x)) else (match q_take sz bt 111 pl_0 with | (b_1, pl_1) => if b_1 = true then (match q_takeAll sz bt 1 pl_1 with | (b_2, pl_2) => if b_2 = true then (match q_readOver sz bt pl_2 x with | (b_3, pl_3, x_3) => ((if b_3 = true then true else false), pl_3, x_3)) else (false, pl_2, x)) else (match q_take sz bt 115 pl_1 with | (b_2, pl_2) => if b_2 = true then (match q_take sz bt 108 pl_2 with | (b_3, pl_3) => if b_3 = true then (match q_takeAll sz bt 2 pl_3 with | (b_4, pl_4) => if b_4 = true then (match q_readSlip sz bt pl_4 x with | (b_5, pl_5, x_5) => ((if b_5 = true then true else false), pl_5, x_5)) else (false, pl_4, x)) else (match q_takeAll sz bt 3 pl_3 with | (b_4, pl_4) => if b_4 = true then (match q_takeOne sz bt 4 pl_4 with | (r_5, pl_5) => if r_5 < 0 then (false, pl_5, x) else (match q_take sz bt 32 pl_5 with | (b_6, pl_6) => if b_6 = true then (match q_eith sz bt 5 pl_6 x with | (b_7, pl_7, x_7) => if b_7 = true then (true, pl_7, (g_addStep x_7 ((-10) - r_5))) else (false, pl_7, x_7)) else (false, pl_6, x))) else (false, pl_4, x))) else (false, pl_2, x))))
set_option maxHeartbeats 4000000 in
set_option maxRecDepth 100000 in
theorem c_X3_readClause (l : Launch) (G : GG) (Z : AM) (t0 t1 : Nat) (A : Nat → Nat) (sz : Nat) (bt : Nat → Int32) (pl : Nat) (x : LawT) (htt : t0 ≠ t1) (hNl : lwN A) (hNt : psN t0 t1 A) (hAZ : ∀ q : Nat, psA t0 A q → Z.1 q) : Met l yX3_readClause wsX3_readClause { frames := 28, cells := 0, slots := 0, locals := 1003 } (aP G Z [.ref t0, .ref (A 0)] (fun H => PsAt G t0 t1 A sz bt pl x H)) (wrQ (some (.int (b2i ((q_readClause sz bt pl x).1)))) (fun H => PsAt G t0 t1 A sz bt ((q_readClause sz bt pl x).2.1) ((q_readClause sz bt pl x).2.2) H) (psA t0 A)) 0 0 (psA t0 A) := by
  refine Met.ofW (cc := cX3_readClause) (maxL := 3) (ret := (some .boolean)) (by decide) rfl ?_
  intro p e s m args below meth c s₁ Bd hml hv
  obtain ⟨rfl, hK, hZ, hB⟩ := hv
  have hx := Bd.exec
  have hb := Bd.bytes
  have hr := Bd.returns
  have hts := atoms_spec (ws := wsX3_readClause) Bd.pre
  have hown : s.vm.findClass RX3 = some m.cls := findClass_of_methodNamed Bd.named
  have hlocks := Bd.notSynchronized
  have hC : CallFix p m c cX3_readClause 3 s _ wsX3_readClause RX3 := ⟨hx, hb, hml, hown, hts⟩
  have hl := lv_entry ([.ref t0, .ref (A 0)]) (n := 3) (Nat.le_of_ble_eq_true rfl)
  rw [lg_entry_eq]
  generalize (lg_sl ([.ref t0, .ref (A 0)]) ++ List.replicate (3 - (lg_sl ([.ref t0, .ref (A 0)])).length) Slot.unset).toArray = ls at hl ⊢
  have hl : lv_has ls 3 [(0, .ref t0), (1, .ref (A 0))] := hl
  have hS : wS (psA t0 A) s.heap s.heap [] := wS.rf
  have f_s := hB
  refine lv_aload_n hx hb dX3_readClause_0 rfl (lv_at hl 0 rfl) ?_
  refine lv_bipush (v := 102) hx hb dX3_readClause_1 (by decide +kernel) ?_
  obtain ⟨⟨b_0, pl_0⟩, hy_0⟩ : ∃ z9, q_take sz bt 102 pl = z9 := ⟨_, rfl⟩
  refine wr_call (va_runV (As := [.int 102]) (rest := []) hC (c2_X3_take l G t0 t1 sz bt pl 102 htt b_0 pl_0 hy_0) (cwV 1 hts gX3_readClause_X3_take rfl rfl rfl kd_X3_take ⟨Nat.le_of_ble_eq_true rfl, Nat.le_of_ble_eq_true rfl⟩) (ro_preV hK f_s.1.1 rfl f_s.1) rfl rfl hl.1 rfl (lv_room (Nat.le_of_ble_eq_true rfl)) dX3_readClause_3 ⟨Nat.zero_le _, Nat.zero_le _⟩) hS (fun q h => Or.inl h) (fun H locs f_n hq hS => ?_)
  have hZ := hZ.kept (fun a9 h9 => hq a9 (fun z9 => h9 (hAZ a9 ((fun q h => Or.inl h) a9 z9))))
  have f_s := (⟨f_n, f_s.2.kept (fun j hj => hq _ (hNt.1 j hj))⟩ : PsAt G t0 t1 A sz bt pl_0 x H)
  refine bz_eq (tgt := 32) hx hb dX3_readClause_6 (by decide) (fun h_1 => ?_) (fun h_1 => ?_)
  · refine lv_aload_n hx hb dX3_readClause_32 rfl (lv_at hl 0 rfl) ?_
    refine lv_bipush (v := 111) hx hb dX3_readClause_33 (by decide +kernel) ?_
    obtain ⟨⟨b_1, pl_1⟩, hy_1⟩ : ∃ z9, q_take sz bt 111 pl_0 = z9 := ⟨_, rfl⟩
    refine wr_call (va_runV (As := [.int 111]) (rest := []) hC (c2_X3_take l G t0 t1 sz bt pl_0 111 htt b_1 pl_1 hy_1) (cwV 1 hts gX3_readClause_X3_take rfl rfl rfl kd_X3_take ⟨Nat.le_of_ble_eq_true rfl, Nat.le_of_ble_eq_true rfl⟩) (ro_preV hK f_s.1.1 rfl f_s.1) rfl rfl hl.1 rfl (lv_room (Nat.le_of_ble_eq_true rfl)) dX3_readClause_35 ⟨Nat.zero_le _, Nat.zero_le _⟩) hS (fun q h => Or.inl h) (fun H locs f_n hq hS => ?_)
    have hZ := hZ.kept (fun a9 h9 => hq a9 (fun z9 => h9 (hAZ a9 ((fun q h => Or.inl h) a9 z9))))
    have f_s := (⟨f_n, f_s.2.kept (fun j hj => hq _ (hNt.1 j hj))⟩ : PsAt G t0 t1 A sz bt pl_1 x H)
    refine bz_eq (tgt := 64) hx hb dX3_readClause_38 (by decide) (fun h_2 => ?_) (fun h_2 => ?_)
    · refine lv_aload_n hx hb dX3_readClause_64 rfl (lv_at hl 0 rfl) ?_
      refine lv_bipush (v := 115) hx hb dX3_readClause_65 (by decide +kernel) ?_
      obtain ⟨⟨b_2, pl_2⟩, hy_2⟩ : ∃ z9, q_take sz bt 115 pl_1 = z9 := ⟨_, rfl⟩
      refine wr_call (va_runV (As := [.int 115]) (rest := []) hC (c2_X3_take l G t0 t1 sz bt pl_1 115 htt b_2 pl_2 hy_2) (cwV 1 hts gX3_readClause_X3_take rfl rfl rfl kd_X3_take ⟨Nat.le_of_ble_eq_true rfl, Nat.le_of_ble_eq_true rfl⟩) (ro_preV hK f_s.1.1 rfl f_s.1) rfl rfl hl.1 rfl (lv_room (Nat.le_of_ble_eq_true rfl)) dX3_readClause_67 ⟨Nat.zero_le _, Nat.zero_le _⟩) hS (fun q h => Or.inl h) (fun H locs f_n hq hS => ?_)
      have hZ := hZ.kept (fun a9 h9 => hq a9 (fun z9 => h9 (hAZ a9 ((fun q h => Or.inl h) a9 z9))))
      have f_s := (⟨f_n, f_s.2.kept (fun j hj => hq _ (hNt.1 j hj))⟩ : PsAt G t0 t1 A sz bt pl_2 x H)
      refine bz_ne (tgt := 75) hx hb dX3_readClause_70 (by decide) (fun h_3 => ?_) (fun h_3 => ?_)
      · refine lv_aload_n hx hb dX3_readClause_75 rfl (lv_at hl 0 rfl) ?_
        refine lv_bipush (v := 108) hx hb dX3_readClause_76 (by decide +kernel) ?_
        obtain ⟨⟨b_3, pl_3⟩, hy_3⟩ : ∃ z9, q_take sz bt 108 pl_2 = z9 := ⟨_, rfl⟩
        refine wr_call (va_runV (As := [.int 108]) (rest := []) hC (c2_X3_take l G t0 t1 sz bt pl_2 108 htt b_3 pl_3 hy_3) (cwV 1 hts gX3_readClause_X3_take rfl rfl rfl kd_X3_take ⟨Nat.le_of_ble_eq_true rfl, Nat.le_of_ble_eq_true rfl⟩) (ro_preV hK f_s.1.1 rfl f_s.1) rfl rfl hl.1 rfl (lv_room (Nat.le_of_ble_eq_true rfl)) dX3_readClause_78 ⟨Nat.zero_le _, Nat.zero_le _⟩) hS (fun q h => Or.inl h) (fun H locs f_n hq hS => ?_)
        have hZ := hZ.kept (fun a9 h9 => hq a9 (fun z9 => h9 (hAZ a9 ((fun q h => Or.inl h) a9 z9))))
        have f_s := (⟨f_n, f_s.2.kept (fun j hj => hq _ (hNt.1 j hj))⟩ : PsAt G t0 t1 A sz bt pl_3 x H)
        refine bz_eq (tgt := 107) hx hb dX3_readClause_81 (by decide) (fun h_4 => ?_) (fun h_4 => ?_)
        · refine lv_aload_n hx hb dX3_readClause_107 rfl (lv_at hl 0 rfl) ?_
          refine va_ldcS hx hb hown (hZ.2.2.2.2.2 3 (by decide)) dX3_readClause_108 ?_
          obtain ⟨⟨b_4, pl_4⟩, hy_4⟩ : ∃ z9, q_takeAll sz bt 3 pl_3 = z9 := ⟨_, rfl⟩
          refine wr_call (va_runV (As := [.ref (zK Z 3)]) (rest := []) hC (c2_X3_takeAll l G Z t0 t1 sz bt pl_3 3 htt (fun q h => hAZ q (Or.inl h)) (by decide) b_4 pl_4 hy_4) (cwV 1 hts gX3_readClause_X3_takeAll rfl rfl rfl kd_X3_takeAll ⟨Nat.le_of_ble_eq_true rfl, Nat.le_of_ble_eq_true rfl⟩) (a_preV hK hZ f_s.1.1 rfl f_s.1) rfl rfl hl.1 rfl (lv_room (Nat.le_of_ble_eq_true rfl)) dX3_readClause_110 ⟨Nat.zero_le _, Nat.zero_le _⟩) hS (fun q h => Or.inl h) (fun H locs f_n hq hS => ?_)
          have hZ := hZ.kept (fun a9 h9 => hq a9 (fun z9 => h9 (hAZ a9 ((fun q h => Or.inl h) a9 z9))))
          have f_s := (⟨f_n, f_s.2.kept (fun j hj => hq _ (hNt.1 j hj))⟩ : PsAt G t0 t1 A sz bt pl_4 x H)
          refine bz_ne (tgt := 118) hx hb dX3_readClause_113 (by decide) (fun h_5 => ?_) (fun h_5 => ?_)
          · refine lv_aload_n hx hb dX3_readClause_118 rfl (lv_at hl 0 rfl) ?_
            refine va_ldcS hx hb hown (hZ.2.2.2.2.2 4 (by decide)) dX3_readClause_119 ?_
            obtain ⟨⟨r_5, pl_5⟩, hy_5⟩ : ∃ z9, q_takeOne sz bt 4 pl_4 = z9 := ⟨_, rfl⟩
            refine wr_call (va_runV (As := [.ref (zK Z 4)]) (rest := []) hC (c2_X3_takeOne l G Z t0 t1 sz bt pl_4 4 htt (fun q h => hAZ q (Or.inl h)) (by decide) r_5 pl_5 hy_5) (cwV 1 hts gX3_readClause_X3_takeOne rfl rfl rfl kd_X3_takeOne ⟨Nat.le_of_ble_eq_true rfl, Nat.le_of_ble_eq_true rfl⟩) (a_preV hK hZ f_s.1.1 rfl f_s.1) rfl rfl hl.1 rfl (lv_room (Nat.le_of_ble_eq_true rfl)) dX3_readClause_121 ⟨Nat.zero_le _, Nat.zero_le _⟩) hS (fun q h => Or.inl h) (fun H locs f_n hq hS => ?_)
            have hZ := hZ.kept (fun a9 h9 => hq a9 (fun z9 => h9 (hAZ a9 ((fun q h => Or.inl h) a9 z9))))
            have f_s := (⟨f_n, f_s.2.kept (fun j hj => hq _ (hNt.1 j hj))⟩ : PsAt G t0 t1 A sz bt pl_5 x H)
            refine lv_istore_n (lv' := [(2, .int r_5), (0, .ref t0), (1, .ref (A 0))]) hx hb dX3_readClause_124 rfl hl (by decide) rfl (fun ls hl => ?_)
            refine lv_iload_n hx hb dX3_readClause_125 rfl (lv_at hl 0 rfl) ?_
            refine lv_if_lt (tgt := 147) hx hb dX3_readClause_126 (by decide) (fun h_6 => ?_) (fun h_6 => ?_)
            · refine lv_iconst (v := 0) hx hb dX3_readClause_147 (by decide) ?_
              have hE9 : q_readClause sz bt pl x = (false, pl_5, x) := (by (try unfold q_readClause); (try rw [hy_0]); (try dsimp only); (repeat rw [if_neg h_1]); (try rw [hy_1]); (try dsimp only); (repeat rw [if_neg h_2]); (try rw [hy_2]); (try dsimp only); (repeat rw [if_pos h_3]); (try rw [hy_3]); (try dsimp only); (repeat rw [if_neg h_4]); (try rw [hy_4]); (try dsimp only); (repeat rw [if_pos h_5]); (try rw [hy_5]); (try dsimp only); (repeat rw [if_pos h_6]); first | done | rfl)
              exact wr_zret hx hb hr hlocks dX3_readClause_148 hS (by rw [hE9]; exact f_s) (by rw [hE9]; first | done | rfl)
            · refine lv_aload_n hx hb dX3_readClause_129 rfl (lv_at hl 1 rfl) ?_
              refine lv_bipush (v := 32) hx hb dX3_readClause_130 (by decide +kernel) ?_
              obtain ⟨⟨b_6, pl_6⟩, hy_6⟩ : ∃ z9, q_take sz bt 32 pl_5 = z9 := ⟨_, rfl⟩
              refine wr_call (va_runV (As := [.int 32]) (rest := []) hC (c2_X3_take l G t0 t1 sz bt pl_5 32 htt b_6 pl_6 hy_6) (cwV 1 hts gX3_readClause_X3_take rfl rfl rfl kd_X3_take ⟨Nat.le_of_ble_eq_true rfl, Nat.le_of_ble_eq_true rfl⟩) (ro_preV hK f_s.1.1 rfl f_s.1) rfl rfl hl.1 rfl (lv_room (Nat.le_of_ble_eq_true rfl)) dX3_readClause_132 ⟨Nat.zero_le _, Nat.zero_le _⟩) hS (fun q h => Or.inl h) (fun H locs f_n hq hS => ?_)
              have hZ := hZ.kept (fun a9 h9 => hq a9 (fun z9 => h9 (hAZ a9 ((fun q h => Or.inl h) a9 z9))))
              have f_s := (⟨f_n, f_s.2.kept (fun j hj => hq _ (hNt.1 j hj))⟩ : PsAt G t0 t1 A sz bt pl_6 x H)
              refine bz_eq (tgt := 147) hx hb dX3_readClause_135 (by decide) (fun h_7 => ?_) (fun h_7 => ?_)
              · refine lv_iconst (v := 0) hx hb dX3_readClause_147 (by decide) ?_
                have hE9 : q_readClause sz bt pl x = (false, pl_6, x) := (by (try unfold q_readClause); (try rw [hy_0]); (try dsimp only); (repeat rw [if_neg h_1]); (try rw [hy_1]); (try dsimp only); (repeat rw [if_neg h_2]); (try rw [hy_2]); (try dsimp only); (repeat rw [if_pos h_3]); (try rw [hy_3]); (try dsimp only); (repeat rw [if_neg h_4]); (try rw [hy_4]); (try dsimp only); (repeat rw [if_pos h_5]); (try rw [hy_5]); (try dsimp only); (repeat rw [if_neg h_6]); (try rw [hy_6]); (try dsimp only); (repeat rw [if_neg h_7]); first | done | rfl)
                exact wr_zret hx hb hr hlocks dX3_readClause_148 hS (by rw [hE9]; exact f_s) (by rw [hE9]; first | done | rfl)
              · refine lv_aload_n hx hb dX3_readClause_138 rfl (lv_at hl 1 rfl) ?_
                refine lv_aload_n hx hb dX3_readClause_139 rfl (lv_at hl 2 rfl) ?_
                refine lv_iconst (v := 0) hx hb dX3_readClause_140 (by decide) ?_
                obtain ⟨⟨b_7, pl_7, x_7⟩, hy_7⟩ : ∃ z9, q_eith sz bt 5 pl_6 x = z9 := ⟨_, rfl⟩
                refine wr_call (va_runV (As := [.ref (A 0), .int 0]) (rest := []) hC (cRec.at (c_eith l G Z t0 t1 A sz bt htt hNl hNt hAZ) pl_6 x b_7 pl_7 x_7 hy_7) (cwV 2 hts gX3_readClause_X3_readEither rfl rfl rfl kd_X3_readEither ⟨Nat.le_of_ble_eq_true rfl, Nat.le_of_ble_eq_true rfl⟩) (a_preV hK hZ f_s.1.1 rfl f_s) rfl rfl hl.1 rfl (lv_room (Nat.le_of_ble_eq_true rfl)) dX3_readClause_141 ⟨Nat.zero_le _, Nat.zero_le _⟩) hS (fun q h => h) (fun H locs f_n hq hS => ?_)
                have hZ := hZ.kept (fun a9 h9 => hq a9 (fun z9 => h9 (hAZ a9 ((fun q h => h) a9 z9))))
                have f_s := f_n
                refine bz_ne (tgt := 149) hx hb dX3_readClause_144 (by decide) (fun h_8 => ?_) (fun h_8 => ?_)
                · refine lv_aload_n hx hb dX3_readClause_149 rfl (lv_at hl 2 rfl) ?_
                  refine lv_bipush (v := (-10)) hx hb dX3_readClause_150 (by decide +kernel) ?_
                  refine lv_iload_n hx hb dX3_readClause_152 rfl (lv_at hl 0 rfl) ?_
                  refine lv_isub hx hb dX3_readClause_153 ?_
                  refine wr_callv (va_runV (As := [.int ((-10) - r_5)]) (rest := []) hC (c_X1_addStep l G A x_7 ((-10) - r_5) hNl) (cwV 1 hts gX3_readClause_X1_addStep rfl rfl rfl kd_X1_addStep ⟨Nat.le_of_ble_eq_true rfl, Nat.le_of_ble_eq_true rfl⟩) (ro_preV hK f_s.2.1 rfl f_s.2) rfl rfl hl.1 rfl (lv_room (Nat.le_of_ble_eq_true rfl)) dX3_readClause_154 ⟨Nat.zero_le _, Nat.zero_le _⟩) hS (fun q h => Or.inr h) (fun H locs f_n hq hS => ?_)
                  have hZ := hZ.kept (fun a9 h9 => hq a9 (fun z9 => h9 (hAZ a9 ((fun q h => Or.inr h) a9 z9))))
                  have f_s := (⟨f_s.1.kept (hq _ hNt.a0) (hq _ hNt.a1), f_n⟩ : PsAt G t0 t1 A sz bt pl_7 (g_addStep x_7 ((-10) - r_5)) H)
                  refine lv_iconst (v := 1) hx hb dX3_readClause_157 (by decide) ?_
                  have hE9 : q_readClause sz bt pl x = (true, pl_7, (g_addStep x_7 ((-10) - r_5))) := (by (try unfold q_readClause); (try rw [hy_0]); (try dsimp only); (repeat rw [if_neg h_1]); (try rw [hy_1]); (try dsimp only); (repeat rw [if_neg h_2]); (try rw [hy_2]); (try dsimp only); (repeat rw [if_pos h_3]); (try rw [hy_3]); (try dsimp only); (repeat rw [if_neg h_4]); (try rw [hy_4]); (try dsimp only); (repeat rw [if_pos h_5]); (try rw [hy_5]); (try dsimp only); (repeat rw [if_neg h_6]); (try rw [hy_6]); (try dsimp only); (repeat rw [if_pos h_7]); (try rw [hy_7]); (try dsimp only); (repeat rw [if_pos h_8]); first | done | rfl)
                  exact wr_zret hx hb hr hlocks dX3_readClause_158 hS (by rw [hE9]; exact f_s) (by rw [hE9]; first | done | rfl)
                · refine lv_iconst (v := 0) hx hb dX3_readClause_147 (by decide) ?_
                  have hE9 : q_readClause sz bt pl x = (false, pl_7, x_7) := (by (try unfold q_readClause); (try rw [hy_0]); (try dsimp only); (repeat rw [if_neg h_1]); (try rw [hy_1]); (try dsimp only); (repeat rw [if_neg h_2]); (try rw [hy_2]); (try dsimp only); (repeat rw [if_pos h_3]); (try rw [hy_3]); (try dsimp only); (repeat rw [if_neg h_4]); (try rw [hy_4]); (try dsimp only); (repeat rw [if_pos h_5]); (try rw [hy_5]); (try dsimp only); (repeat rw [if_neg h_6]); (try rw [hy_6]); (try dsimp only); (repeat rw [if_pos h_7]); (try rw [hy_7]); (try dsimp only); (repeat rw [if_neg h_8]); first | done | rfl)
                  exact wr_zret hx hb hr hlocks dX3_readClause_148 hS (by rw [hE9]; exact f_s) (by rw [hE9]; first | done | rfl)
          · refine lv_iconst (v := 0) hx hb dX3_readClause_116 (by decide) ?_
            have hE9 : q_readClause sz bt pl x = (false, pl_4, x) := (by (try unfold q_readClause); (try rw [hy_0]); (try dsimp only); (repeat rw [if_neg h_1]); (try rw [hy_1]); (try dsimp only); (repeat rw [if_neg h_2]); (try rw [hy_2]); (try dsimp only); (repeat rw [if_pos h_3]); (try rw [hy_3]); (try dsimp only); (repeat rw [if_neg h_4]); (try rw [hy_4]); (try dsimp only); (repeat rw [if_neg h_5]); first | done | rfl)
            exact wr_zret hx hb hr hlocks dX3_readClause_117 hS (by rw [hE9]; exact f_s) (by rw [hE9]; first | done | rfl)
        · refine lv_aload_n hx hb dX3_readClause_84 rfl (lv_at hl 0 rfl) ?_
          refine va_ldcS hx hb hown (hZ.2.2.2.2.2 2 (by decide)) dX3_readClause_85 ?_
          obtain ⟨⟨b_4, pl_4⟩, hy_4⟩ : ∃ z9, q_takeAll sz bt 2 pl_3 = z9 := ⟨_, rfl⟩
          refine wr_call (va_runV (As := [.ref (zK Z 2)]) (rest := []) hC (c2_X3_takeAll l G Z t0 t1 sz bt pl_3 2 htt (fun q h => hAZ q (Or.inl h)) (by decide) b_4 pl_4 hy_4) (cwV 1 hts gX3_readClause_X3_takeAll rfl rfl rfl kd_X3_takeAll ⟨Nat.le_of_ble_eq_true rfl, Nat.le_of_ble_eq_true rfl⟩) (a_preV hK hZ f_s.1.1 rfl f_s.1) rfl rfl hl.1 rfl (lv_room (Nat.le_of_ble_eq_true rfl)) dX3_readClause_87 ⟨Nat.zero_le _, Nat.zero_le _⟩) hS (fun q h => Or.inl h) (fun H locs f_n hq hS => ?_)
          have hZ := hZ.kept (fun a9 h9 => hq a9 (fun z9 => h9 (hAZ a9 ((fun q h => Or.inl h) a9 z9))))
          have f_s := (⟨f_n, f_s.2.kept (fun j hj => hq _ (hNt.1 j hj))⟩ : PsAt G t0 t1 A sz bt pl_4 x H)
          refine bz_eq (tgt := 105) hx hb dX3_readClause_90 (by decide) (fun h_9 => ?_) (fun h_9 => ?_)
          · refine lv_iconst (v := 0) hx hb dX3_readClause_105 (by decide) ?_
            have hE9 : q_readClause sz bt pl x = (false, pl_4, x) := (by (try unfold q_readClause); (try rw [hy_0]); (try dsimp only); (repeat rw [if_neg h_1]); (try rw [hy_1]); (try dsimp only); (repeat rw [if_neg h_2]); (try rw [hy_2]); (try dsimp only); (repeat rw [if_pos h_3]); (try rw [hy_3]); (try dsimp only); (repeat rw [if_pos h_4]); (try rw [hy_4]); (try dsimp only); (repeat rw [if_neg h_9]); first | done | rfl)
            exact wr_zret hx hb hr hlocks dX3_readClause_106 hS (by rw [hE9]; exact f_s) (by rw [hE9]; first | done | rfl)
          · refine lv_aload_n hx hb dX3_readClause_93 rfl (lv_at hl 0 rfl) ?_
            refine lv_aload_n hx hb dX3_readClause_94 rfl (lv_at hl 1 rfl) ?_
            obtain ⟨⟨b_5, pl_5, x_5⟩, hy_5⟩ : ∃ z9, q_readSlip sz bt pl_4 x = z9 := ⟨_, rfl⟩
            refine wr_call (va_runV (As := [.ref (A 0)]) (rest := []) hC (c2_X3_readSlip l G Z t0 t1 A sz bt pl_4 x htt hNl hNt hAZ b_5 pl_5 x_5 hy_5) (cwV 1 hts gX3_readClause_X3_readSlip rfl rfl rfl kd_X3_readSlip ⟨Nat.le_of_ble_eq_true rfl, Nat.le_of_ble_eq_true rfl⟩) (a_preV hK hZ f_s.1.1 rfl f_s) rfl rfl hl.1 rfl (lv_room (Nat.le_of_ble_eq_true rfl)) dX3_readClause_95 ⟨Nat.zero_le _, Nat.zero_le _⟩) hS (fun q h => h) (fun H locs f_n hq hS => ?_)
            have hZ := hZ.kept (fun a9 h9 => hq a9 (fun z9 => h9 (hAZ a9 ((fun q h => h) a9 z9))))
            have f_s := f_n
            refine join_wr (nL := 3) 106 [(0, .ref t0), (1, .ref (A 0))] [.int (b2i (if b_5 = true then true else false))] (fun H locs => (PsAt G t0 t1 A sz bt pl_5 x_5 H) ∧ wS (psA t0 A) s.heap H locs ∧ amK Z s H) (fun H locs hI ls hl => ?_) (fun J_10 => ?_)
            · obtain ⟨f_s, hS, hZ⟩ := hI
              have hE9 : q_readClause sz bt pl x = ((if b_5 = true then true else false), pl_5, x_5) := (by (try unfold q_readClause); (try rw [hy_0]); (try dsimp only); (repeat rw [if_neg h_1]); (try rw [hy_1]); (try dsimp only); (repeat rw [if_neg h_2]); (try rw [hy_2]); (try dsimp only); (repeat rw [if_pos h_3]); (try rw [hy_3]); (try dsimp only); (repeat rw [if_pos h_4]); (try rw [hy_4]); (try dsimp only); (repeat rw [if_pos h_9]); (try rw [hy_5]); (try dsimp only); first | done | rfl)
              exact wr_zret hx hb hr hlocks dX3_readClause_106 hS (by rw [hE9]; exact f_s) (by rw [hE9]; first | done | rfl)
            · refine bz_eq (tgt := 105) hx hb dX3_readClause_98 (by decide) (fun h_11 => ?_) (fun h_11 => ?_)
              · refine lv_iconst (v := 0) hx hb dX3_readClause_105 (by decide) ?_
                have hJ := J_10; (repeat rw [if_neg h_11] at hJ)
                first | exact hJ _ _ ⟨f_s, hS, hZ⟩ ls (lv_sub hl [0, 1] rfl) | ((repeat rw [if_neg h_11] at hl); (repeat rw [if_neg h_11]); exact hJ _ _ ⟨f_s, hS, hZ⟩ ls (lv_sub hl [0, 1] rfl))
              · refine lv_iconst (v := 1) hx hb dX3_readClause_101 (by decide) ?_
                refine lv_goto (tgt := 106) hx hb dX3_readClause_102 (by decide) ?_
                have hJ := J_10; (repeat rw [if_pos h_11] at hJ)
                first | exact hJ _ _ ⟨f_s, hS, hZ⟩ ls (lv_sub hl [0, 1] rfl) | ((repeat rw [if_pos h_11] at hl); (repeat rw [if_pos h_11]); exact hJ _ _ ⟨f_s, hS, hZ⟩ ls (lv_sub hl [0, 1] rfl))
      · refine lv_iconst (v := 0) hx hb dX3_readClause_73 (by decide) ?_
        have hE9 : q_readClause sz bt pl x = (false, pl_2, x) := (by (try unfold q_readClause); (try rw [hy_0]); (try dsimp only); (repeat rw [if_neg h_1]); (try rw [hy_1]); (try dsimp only); (repeat rw [if_neg h_2]); (try rw [hy_2]); (try dsimp only); (repeat rw [if_neg h_3]); first | done | rfl)
        exact wr_zret hx hb hr hlocks dX3_readClause_74 hS (by rw [hE9]; exact f_s) (by rw [hE9]; first | done | rfl)
    · refine lv_aload_n hx hb dX3_readClause_41 rfl (lv_at hl 0 rfl) ?_
      refine va_ldcS hx hb hown (hZ.2.2.2.2.2 1 (by decide)) dX3_readClause_42 ?_
      obtain ⟨⟨b_2, pl_2⟩, hy_2⟩ : ∃ z9, q_takeAll sz bt 1 pl_1 = z9 := ⟨_, rfl⟩
      refine wr_call (va_runV (As := [.ref (zK Z 1)]) (rest := []) hC (c2_X3_takeAll l G Z t0 t1 sz bt pl_1 1 htt (fun q h => hAZ q (Or.inl h)) (by decide) b_2 pl_2 hy_2) (cwV 1 hts gX3_readClause_X3_takeAll rfl rfl rfl kd_X3_takeAll ⟨Nat.le_of_ble_eq_true rfl, Nat.le_of_ble_eq_true rfl⟩) (a_preV hK hZ f_s.1.1 rfl f_s.1) rfl rfl hl.1 rfl (lv_room (Nat.le_of_ble_eq_true rfl)) dX3_readClause_44 ⟨Nat.zero_le _, Nat.zero_le _⟩) hS (fun q h => Or.inl h) (fun H locs f_n hq hS => ?_)
      have hZ := hZ.kept (fun a9 h9 => hq a9 (fun z9 => h9 (hAZ a9 ((fun q h => Or.inl h) a9 z9))))
      have f_s := (⟨f_n, f_s.2.kept (fun j hj => hq _ (hNt.1 j hj))⟩ : PsAt G t0 t1 A sz bt pl_2 x H)
      refine bz_eq (tgt := 62) hx hb dX3_readClause_47 (by decide) (fun h_12 => ?_) (fun h_12 => ?_)
      · refine lv_iconst (v := 0) hx hb dX3_readClause_62 (by decide) ?_
        have hE9 : q_readClause sz bt pl x = (false, pl_2, x) := (by (try unfold q_readClause); (try rw [hy_0]); (try dsimp only); (repeat rw [if_neg h_1]); (try rw [hy_1]); (try dsimp only); (repeat rw [if_pos h_2]); (try rw [hy_2]); (try dsimp only); (repeat rw [if_neg h_12]); first | done | rfl)
        exact wr_zret hx hb hr hlocks dX3_readClause_63 hS (by rw [hE9]; exact f_s) (by rw [hE9]; first | done | rfl)
      · refine lv_aload_n hx hb dX3_readClause_50 rfl (lv_at hl 0 rfl) ?_
        refine lv_aload_n hx hb dX3_readClause_51 rfl (lv_at hl 1 rfl) ?_
        obtain ⟨⟨b_3, pl_3, x_3⟩, hy_3⟩ : ∃ z9, q_readOver sz bt pl_2 x = z9 := ⟨_, rfl⟩
        refine wr_call (va_runV (As := [.ref (A 0)]) (rest := []) hC (c2_X3_readOver l G Z t0 t1 A sz bt pl_2 x htt hNl hNt hAZ b_3 pl_3 x_3 hy_3) (cwV 1 hts gX3_readClause_X3_readOver rfl rfl rfl kd_X3_readOver ⟨Nat.le_of_ble_eq_true rfl, Nat.le_of_ble_eq_true rfl⟩) (a_preV hK hZ f_s.1.1 rfl f_s) rfl rfl hl.1 rfl (lv_room (Nat.le_of_ble_eq_true rfl)) dX3_readClause_52 ⟨Nat.zero_le _, Nat.zero_le _⟩) hS (fun q h => h) (fun H locs f_n hq hS => ?_)
        have hZ := hZ.kept (fun a9 h9 => hq a9 (fun z9 => h9 (hAZ a9 ((fun q h => h) a9 z9))))
        have f_s := f_n
        refine join_wr (nL := 3) 63 [(0, .ref t0), (1, .ref (A 0))] [.int (b2i (if b_3 = true then true else false))] (fun H locs => (PsAt G t0 t1 A sz bt pl_3 x_3 H) ∧ wS (psA t0 A) s.heap H locs ∧ amK Z s H) (fun H locs hI ls hl => ?_) (fun J_13 => ?_)
        · obtain ⟨f_s, hS, hZ⟩ := hI
          have hE9 : q_readClause sz bt pl x = ((if b_3 = true then true else false), pl_3, x_3) := (by (try unfold q_readClause); (try rw [hy_0]); (try dsimp only); (repeat rw [if_neg h_1]); (try rw [hy_1]); (try dsimp only); (repeat rw [if_pos h_2]); (try rw [hy_2]); (try dsimp only); (repeat rw [if_pos h_12]); (try rw [hy_3]); (try dsimp only); first | done | rfl)
          exact wr_zret hx hb hr hlocks dX3_readClause_63 hS (by rw [hE9]; exact f_s) (by rw [hE9]; first | done | rfl)
        · refine bz_eq (tgt := 62) hx hb dX3_readClause_55 (by decide) (fun h_14 => ?_) (fun h_14 => ?_)
          · refine lv_iconst (v := 0) hx hb dX3_readClause_62 (by decide) ?_
            have hJ := J_13; (repeat rw [if_neg h_14] at hJ)
            first | exact hJ _ _ ⟨f_s, hS, hZ⟩ ls (lv_sub hl [0, 1] rfl) | ((repeat rw [if_neg h_14] at hl); (repeat rw [if_neg h_14]); exact hJ _ _ ⟨f_s, hS, hZ⟩ ls (lv_sub hl [0, 1] rfl))
          · refine lv_iconst (v := 1) hx hb dX3_readClause_58 (by decide) ?_
            refine lv_goto (tgt := 63) hx hb dX3_readClause_59 (by decide) ?_
            have hJ := J_13; (repeat rw [if_pos h_14] at hJ)
            first | exact hJ _ _ ⟨f_s, hS, hZ⟩ ls (lv_sub hl [0, 1] rfl) | ((repeat rw [if_pos h_14] at hl); (repeat rw [if_pos h_14]); exact hJ _ _ ⟨f_s, hS, hZ⟩ ls (lv_sub hl [0, 1] rfl))
  · refine lv_aload_n hx hb dX3_readClause_9 rfl (lv_at hl 0 rfl) ?_
    refine va_ldcS hx hb hown (hZ.2.2.2.2.2 0 (by decide)) dX3_readClause_10 ?_
    obtain ⟨⟨b_1, pl_1⟩, hy_1⟩ : ∃ z9, q_takeAll sz bt 0 pl_0 = z9 := ⟨_, rfl⟩
    refine wr_call (va_runV (As := [.ref (zK Z 0)]) (rest := []) hC (c2_X3_takeAll l G Z t0 t1 sz bt pl_0 0 htt (fun q h => hAZ q (Or.inl h)) (by decide) b_1 pl_1 hy_1) (cwV 1 hts gX3_readClause_X3_takeAll rfl rfl rfl kd_X3_takeAll ⟨Nat.le_of_ble_eq_true rfl, Nat.le_of_ble_eq_true rfl⟩) (a_preV hK hZ f_s.1.1 rfl f_s.1) rfl rfl hl.1 rfl (lv_room (Nat.le_of_ble_eq_true rfl)) dX3_readClause_12 ⟨Nat.zero_le _, Nat.zero_le _⟩) hS (fun q h => Or.inl h) (fun H locs f_n hq hS => ?_)
    have hZ := hZ.kept (fun a9 h9 => hq a9 (fun z9 => h9 (hAZ a9 ((fun q h => Or.inl h) a9 z9))))
    have f_s := (⟨f_n, f_s.2.kept (fun j hj => hq _ (hNt.1 j hj))⟩ : PsAt G t0 t1 A sz bt pl_1 x H)
    refine bz_eq (tgt := 30) hx hb dX3_readClause_15 (by decide) (fun h_15 => ?_) (fun h_15 => ?_)
    · refine lv_iconst (v := 0) hx hb dX3_readClause_30 (by decide) ?_
      have hE9 : q_readClause sz bt pl x = (false, pl_1, x) := (by (try unfold q_readClause); (try rw [hy_0]); (try dsimp only); (repeat rw [if_pos h_1]); (try rw [hy_1]); (try dsimp only); (repeat rw [if_neg h_15]); first | done | rfl)
      exact wr_zret hx hb hr hlocks dX3_readClause_31 hS (by rw [hE9]; exact f_s) (by rw [hE9]; first | done | rfl)
    · refine lv_aload_n hx hb dX3_readClause_18 rfl (lv_at hl 0 rfl) ?_
      refine lv_aload_n hx hb dX3_readClause_19 rfl (lv_at hl 1 rfl) ?_
      obtain ⟨⟨b_2, pl_2, x_2⟩, hy_2⟩ : ∃ z9, q_readFrom sz bt pl_1 x = z9 := ⟨_, rfl⟩
      refine wr_call (va_runV (As := [.ref (A 0)]) (rest := []) hC (c2_X3_readFrom l G Z t0 t1 A sz bt pl_1 x htt hNl hNt hAZ b_2 pl_2 x_2 hy_2) (cwV 1 hts gX3_readClause_X3_readFrom rfl rfl rfl kd_X3_readFrom ⟨Nat.le_of_ble_eq_true rfl, Nat.le_of_ble_eq_true rfl⟩) (a_preV hK hZ f_s.1.1 rfl f_s) rfl rfl hl.1 rfl (lv_room (Nat.le_of_ble_eq_true rfl)) dX3_readClause_20 ⟨Nat.zero_le _, Nat.zero_le _⟩) hS (fun q h => h) (fun H locs f_n hq hS => ?_)
      have hZ := hZ.kept (fun a9 h9 => hq a9 (fun z9 => h9 (hAZ a9 ((fun q h => h) a9 z9))))
      have f_s := f_n
      refine join_wr (nL := 3) 31 [(0, .ref t0), (1, .ref (A 0))] [.int (b2i (if b_2 = true then true else false))] (fun H locs => (PsAt G t0 t1 A sz bt pl_2 x_2 H) ∧ wS (psA t0 A) s.heap H locs ∧ amK Z s H) (fun H locs hI ls hl => ?_) (fun J_16 => ?_)
      · obtain ⟨f_s, hS, hZ⟩ := hI
        have hE9 : q_readClause sz bt pl x = ((if b_2 = true then true else false), pl_2, x_2) := (by (try unfold q_readClause); (try rw [hy_0]); (try dsimp only); (repeat rw [if_pos h_1]); (try rw [hy_1]); (try dsimp only); (repeat rw [if_pos h_15]); (try rw [hy_2]); (try dsimp only); first | done | rfl)
        exact wr_zret hx hb hr hlocks dX3_readClause_31 hS (by rw [hE9]; exact f_s) (by rw [hE9]; first | done | rfl)
      · refine bz_eq (tgt := 30) hx hb dX3_readClause_23 (by decide) (fun h_17 => ?_) (fun h_17 => ?_)
        · refine lv_iconst (v := 0) hx hb dX3_readClause_30 (by decide) ?_
          have hJ := J_16; (repeat rw [if_neg h_17] at hJ)
          first | exact hJ _ _ ⟨f_s, hS, hZ⟩ ls (lv_sub hl [0, 1] rfl) | ((repeat rw [if_neg h_17] at hl); (repeat rw [if_neg h_17]); exact hJ _ _ ⟨f_s, hS, hZ⟩ ls (lv_sub hl [0, 1] rfl))
        · refine lv_iconst (v := 1) hx hb dX3_readClause_26 (by decide) ?_
          refine lv_goto (tgt := 31) hx hb dX3_readClause_27 (by decide) ?_
          have hJ := J_16; (repeat rw [if_pos h_17] at hJ)
          first | exact hJ _ _ ⟨f_s, hS, hZ⟩ ls (lv_sub hl [0, 1] rfl) | ((repeat rw [if_pos h_17] at hl); (repeat rw [if_pos h_17]); exact hJ _ _ ⟨f_s, hS, hZ⟩ ls (lv_sub hl [0, 1] rfl))
theorem c2_X3_readClause (l : Launch) (G : GG) (Z : AM) (t0 t1 : Nat) (A : Nat → Nat) (sz : Nat) (bt : Nat → Int32) (pl : Nat) (x : LawT) (htt : t0 ≠ t1) (hNl : lwN A) (hNt : psN t0 t1 A) (hAZ : ∀ q : Nat, psA t0 A q → Z.1 q) (b9 : Bool) (pl9 : Nat) (x9 : LawT) (hy9 : q_readClause sz bt pl x = (b9, pl9, x9)) : Met l yX3_readClause wsX3_readClause { frames := 28, cells := 0, slots := 0, locals := 1003 } (aP G Z [.ref t0, .ref (A 0)] (fun H => PsAt G t0 t1 A sz bt pl x H)) (wrQ (some (.int (b2i b9))) (fun H => PsAt G t0 t1 A sz bt pl9 x9 H) (psA t0 A)) 0 0 (psA t0 A) := by
  have h9 := c_X3_readClause l G Z t0 t1 A sz bt pl x htt hNl hNt hAZ
  rw [hy9] at h9
  exact h9
theorem i_X3_readInto_X3 : ∀ w ∈ wsX30, w ∈ wsX3_readInto := fun _ h => List.mem_cons_of_mem _ (List.mem_append_left _ (List.mem_append_left _ (List.mem_append_right _ h)))
theorem k_X3_readInto_fieldLink_30 : Cond.fieldLink RX3 30 "SameWater$Tape" "place" "I" ∈ wsX3_readInto := by decide +kernel
theorem k_X3_readInto_fieldLink_15 : Cond.fieldLink RX3 15 "SameWater$Tape" "size" "I" ∈ wsX3_readInto := by decide +kernel
theorem kd_X1_clear : yX1_clear.cls = RX1 ∧ yX1_clear.cls ≠ "java/lang/invoke/MethodHandle" ∧ yX1_clear.cls ≠ "java/lang/invoke/VarHandle" ∧ (parseMethodDescriptor yX1_clear.desc).map (fun d => d.parameters.length) = some 0 := by decide +kernel
theorem kd_X3_readClause : yX3_readClause.cls = RX3 ∧ yX3_readClause.cls ≠ "java/lang/invoke/MethodHandle" ∧ yX3_readClause.cls ≠ "java/lang/invoke/VarHandle" ∧ (parseMethodDescriptor yX3_readClause.desc).map (fun d => d.parameters.length) = some 1 := by decide +kernel
def q_intoGo (sz : Nat) (bt : Nat → Int32) : Nat → Nat → Nat → LawT → Bool × Nat × LawT
  | 0, _, pl_k, x_k => (false, pl_k, x_k)
  | n + 1, k, pl_k, x_k => (match q_readClause sz bt pl_k x_k with | (b_0, pl_0, x_0) => if b_0 = true then if (nI pl_0) = (nI sz) then (true, pl_0, x_0) else if (nI k) = 10 then (false, pl_0, x_0) else (match q_take sz bt 59 pl_0 with | (b_1, pl_1) => if b_1 = true then q_intoGo sz bt n (k + 1) pl_1 x_0 else (false, pl_1, x_0)) else (false, pl_0, x_0))
theorem q_intoGo_0 (sz : Nat) (bt : Nat → Int32) (k : Nat) (pl_k : Nat) (x_k : LawT) : q_intoGo sz bt 0 k pl_k x_k = ((false, pl_k, x_k)) := rfl
theorem q_intoGo_s (sz : Nat) (bt : Nat → Int32) (n k : Nat) (pl_k : Nat) (x_k : LawT) : q_intoGo sz bt (n + 1) k pl_k x_k = ((match q_readClause sz bt pl_k x_k with | (b_0, pl_0, x_0) => if b_0 = true then if (nI pl_0) = (nI sz) then (true, pl_0, x_0) else if (nI k) = 10 then (false, pl_0, x_0) else (match q_take sz bt 59 pl_0 with | (b_1, pl_1) => if b_1 = true then q_intoGo sz bt n (k + 1) pl_1 x_0 else (false, pl_1, x_0)) else (false, pl_0, x_0))) := rfl
def q_readInto (sz : Nat) (bt : Nat → Int32) (pl : Nat) (x : LawT) : Bool × Nat × LawT := q_intoGo sz bt (11 - 1) 1 0 (g_clear x)
set_option maxHeartbeats 4000000 in
set_option maxRecDepth 100000 in
theorem c_X3_readInto (l : Launch) (G : GG) (Z : AM) (t0 t1 : Nat) (A : Nat → Nat) (sz : Nat) (bt : Nat → Int32) (pl : Nat) (x : LawT) (htt : t0 ≠ t1) (hNl : lwN A) (hNt : psN t0 t1 A) (hAZ : ∀ q : Nat, psA t0 A q → Z.1 q) : Met l yX3_readInto wsX3_readInto { frames := 29, cells := 0, slots := 0, locals := 1025 } (aP G Z [.ref t0, .ref (A 0)] (fun H => PsAt G t0 t1 A sz bt pl x H)) (wrQ (some (.int (b2i ((q_readInto sz bt pl x).1)))) (fun H => PsAt G t0 t1 A sz bt ((q_readInto sz bt pl x).2.1) ((q_readInto sz bt pl x).2.2) H) (psA t0 A)) 0 0 (psA t0 A) := by
  refine Met.ofW (cc := cX3_readInto) (maxL := 3) (ret := (some .boolean)) (by decide) rfl ?_
  intro p e s m args below meth c s₁ Bd hml hv
  obtain ⟨rfl, hK, hZ, hB⟩ := hv
  have hx := Bd.exec
  have hb := Bd.bytes
  have hr := Bd.returns
  have hts := atoms_spec (ws := wsX3_readInto) Bd.pre
  have hown : s.vm.findClass RX3 = some m.cls := findClass_of_methodNamed Bd.named
  have hlocks := Bd.notSynchronized
  have hC : CallFix p m c cX3_readInto 3 s _ wsX3_readInto RX3 := ⟨hx, hb, hml, hown, hts⟩
  have hl := lv_entry ([.ref t0, .ref (A 0)]) (n := 3) (Nat.le_of_ble_eq_true rfl)
  rw [lg_entry_eq]
  generalize (lg_sl ([.ref t0, .ref (A 0)]) ++ List.replicate (3 - (lg_sl ([.ref t0, .ref (A 0)])).length) Slot.unset).toArray = ls at hl ⊢
  have hl : lv_has ls 3 [(0, .ref t0), (1, .ref (A 0))] := hl
  have hS : wS (psA t0 A) s.heap s.heap [] := wS.rf
  have f_s := hB
  refine lv_aload_n hx hb dX3_readInto_0 rfl (lv_at hl 1 rfl) ?_
  refine wr_callv (va_runV (As := []) (rest := []) hC (c_X1_clear l G A x hNl) (cwV 0 hts gX3_readInto_X1_clear rfl rfl rfl kd_X1_clear ⟨Nat.le_of_ble_eq_true rfl, Nat.le_of_ble_eq_true rfl⟩) (ro_preV hK f_s.2.1 rfl f_s.2) rfl rfl hl.1 rfl (lv_room (Nat.le_of_ble_eq_true rfl)) dX3_readInto_1 ⟨Nat.zero_le _, Nat.zero_le _⟩) hS (fun q h => Or.inr h) (fun H locs f_n hq hS => ?_)
  have hZ := hZ.kept (fun a9 h9 => hq a9 (fun z9 => h9 (hAZ a9 ((fun q h => Or.inr h) a9 z9))))
  have f_s := (⟨f_s.1.kept (hq _ hNt.a0) (hq _ hNt.a1), f_n⟩ : PsAt G t0 t1 A sz bt pl (g_clear x) H)
  refine lv_aload_n hx hb dX3_readInto_4 rfl (lv_at hl 0 rfl) ?_
  refine lv_iconst (v := 0) hx hb dX3_readInto_5 (by decide) ?_
  refine w_put (C := RX3) (T := TX3) (N := 3) hx hb hts i_X3_readInto_X3 tyX3 tyX3_ok nmX3 hown hK f_s.1.1 hS (Or.inl rfl) rfl 2 (by decide) k_X3_readInto_fieldLink_30 rfl rfl rfl rfl (Nat.le_of_ble_eq_true rfl) dX3_readInto_6 (fun H locs hn hq hS => ?_)
  have hZ := hZ.put (hAZ _ (Or.inl rfl)) hq
  have f_t : TpAt G t0 t1 (sz, 0, bt) H := ⟨hn, f_s.1.2.1.kept (hq _ htt.symm), f_s.1.2.2.1, Nat.zero_le _⟩
  have f_s := (⟨f_t, f_s.2.kept (fun j hj => hq _ (hNt.1 j hj))⟩ : PsAt G t0 t1 A sz bt 0 (g_clear x) H)
  refine lv_iconst (v := 1) hx hb dX3_readInto_9 (by decide) ?_
  refine lv_istore_n (lv' := [(2, .int 1), (0, .ref t0), (1, .ref (A 0))]) hx hb dX3_readInto_10 rfl hl (by decide) rfl (fun ls hl => ?_)
  refine loop_wr (nL := 3) (α := Nat × Nat × LawT) (fun a9 => [(0, .ref t0), (1, .ref (A 0)), (2, .int (nI (a9.1)))]) (fun a9 H locs => (a9.1 ≤ 11 ∧ q_intoGo sz bt (11 - a9.1) a9.1 a9.2.1 a9.2.2 = q_intoGo sz bt (11 - 1) 1 0 (g_clear x)) ∧ (PsAt G t0 t1 A sz bt (a9.2.1) (a9.2.2) H) ∧ wS (psA t0 A) s.heap H locs ∧ amK Z s H) (fun a9 => 11 - a9.1) (1, 0, (g_clear x)) ⟨⟨(by first | exact Nat.zero_le _ | decide | omega), rfl⟩, f_s, hS, hZ⟩ (lv_sub hl [1, 2, 0] rfl) (fun a9 H locs hI9 ih_k ls hl => ?_)
  obtain ⟨k, pl_k, x_k⟩ := a9
  obtain ⟨hI9, f_s, hS, hZ⟩ := hI9
  have f_s : PsAt G t0 t1 A sz bt pl_k x_k H := f_s
  obtain ⟨hk_k, hV⟩ : k ≤ 11 ∧ q_intoGo sz bt (11 - k) k pl_k x_k = q_intoGo sz bt (11 - 1) 1 0 (g_clear x) := hI9
  have hl : lv_has ls 3 [(0, .ref t0), (1, .ref (A 0)), (2, .int (nI k))] := hl
  refine lv_iload_n hx hb dX3_readInto_11 rfl (lv_at hl 2 rfl) ?_
  refine lv_bipush (v := 10) hx hb dX3_readInto_12 (by decide +kernel) ?_
  refine lv_icmp_gt (tgt := 63) hx hb dX3_readInto_14 (by decide) (fun h_1 => ?_) (fun h_1 => ?_)
  · have hN_k : k = 11 := gt_ex (N := 10) rfl h_1 hk_k (by omega)
    subst hN_k
    rw [Nat.sub_self] at hV
    refine lv_iconst (v := 0) hx hb dX3_readInto_63 (by decide) ?_
    have hE9 : q_readInto sz bt pl x = (false, pl_k, x_k) := (by (try unfold q_readInto); rw [← hV, q_intoGo_0]; first | done | rfl)
    exact wr_zret hx hb hr hlocks dX3_readInto_64 hS (by rw [hE9]; exact f_s) (by rw [hE9]; first | done | rfl)
  · have hlt_k : k < 11 := gt_in (N := 10) rfl h_1 hk_k (by omega)
    obtain ⟨n9, hn9⟩ : ∃ n9, 11 - k = n9 + 1 := ⟨11 - k - 1, by omega⟩
    rw [hn9] at hV
    refine lv_aload_n hx hb dX3_readInto_17 rfl (lv_at hl 0 rfl) ?_
    refine lv_aload_n hx hb dX3_readInto_18 rfl (lv_at hl 1 rfl) ?_
    obtain ⟨⟨b_0, pl_0, x_0⟩, hy_0⟩ : ∃ z9, q_readClause sz bt pl_k x_k = z9 := ⟨_, rfl⟩
    refine wr_call (va_runV (As := [.ref (A 0)]) (rest := []) hC (c2_X3_readClause l G Z t0 t1 A sz bt pl_k x_k htt hNl hNt hAZ b_0 pl_0 x_0 hy_0) (cwV 1 hts gX3_readInto_X3_readClause rfl rfl rfl kd_X3_readClause ⟨Nat.le_of_ble_eq_true rfl, Nat.le_of_ble_eq_true rfl⟩) (a_preV hK hZ f_s.1.1 rfl f_s) rfl rfl hl.1 rfl (lv_room (Nat.le_of_ble_eq_true rfl)) dX3_readInto_19 ⟨Nat.zero_le _, Nat.zero_le _⟩) hS (fun q h => h) (fun H locs f_n hq hS => ?_)
    have hZ := hZ.kept (fun a9 h9 => hq a9 (fun z9 => h9 (hAZ a9 ((fun q h => h) a9 z9))))
    have f_s := f_n
    refine bz_ne (tgt := 27) hx hb dX3_readInto_22 (by decide) (fun h_2 => ?_) (fun h_2 => ?_)
    · refine lv_aload_n hx hb dX3_readInto_27 rfl (lv_at hl 0 rfl) ?_
      refine r_get (C := RX3) (T := TX3) (N := 3) hx hb hts i_X3_readInto_X3 hown hK f_s.1.1 rfl 2 (by decide) k_X3_readInto_fieldLink_30 rfl rfl dX3_readInto_28 ?_
      refine lv_aload_n hx hb dX3_readInto_31 rfl (lv_at hl 0 rfl) ?_
      refine r_get (C := RX3) (T := TX3) (N := 3) hx hb hts i_X3_readInto_X3 hown hK f_s.1.1 rfl 1 (by decide) k_X3_readInto_fieldLink_15 rfl rfl dX3_readInto_32 ?_
      refine lv_icmp_ne (tgt := 40) hx hb dX3_readInto_35 (by decide) (fun h_3 => ?_) (fun h_3 => ?_)
      · refine lv_iload_n hx hb dX3_readInto_40 rfl (lv_at hl 2 rfl) ?_
        refine lv_bipush (v := 10) hx hb dX3_readInto_41 (by decide +kernel) ?_
        refine lv_icmp_eq (tgt := 55) hx hb dX3_readInto_43 (by decide) (fun h_4 => ?_) (fun h_4 => ?_)
        · refine lv_iconst (v := 0) hx hb dX3_readInto_55 (by decide) ?_
          have hE9 : q_readInto sz bt pl x = (false, pl_0, x_0) := (by (try unfold q_readInto); rw [← hV, q_intoGo_s]; (repeat rw [if_neg h_1]); (try rw [hy_0]); (try dsimp only); (repeat rw [if_pos h_2]); (repeat rw [if_neg h_3]); (repeat rw [if_pos h_4]); first | done | rfl)
          exact wr_zret hx hb hr hlocks dX3_readInto_56 hS (by rw [hE9]; exact f_s) (by rw [hE9]; first | done | rfl)
        · refine lv_aload_n hx hb dX3_readInto_46 rfl (lv_at hl 0 rfl) ?_
          refine lv_bipush (v := 59) hx hb dX3_readInto_47 (by decide +kernel) ?_
          obtain ⟨⟨b_1, pl_1⟩, hy_1⟩ : ∃ z9, q_take sz bt 59 pl_0 = z9 := ⟨_, rfl⟩
          refine wr_call (va_runV (As := [.int 59]) (rest := []) hC (c2_X3_take l G t0 t1 sz bt pl_0 59 htt b_1 pl_1 hy_1) (cwV 1 hts gX3_readInto_X3_take rfl rfl rfl kd_X3_take ⟨Nat.le_of_ble_eq_true rfl, Nat.le_of_ble_eq_true rfl⟩) (ro_preV hK f_s.1.1 rfl f_s.1) rfl rfl hl.1 rfl (lv_room (Nat.le_of_ble_eq_true rfl)) dX3_readInto_49 ⟨Nat.zero_le _, Nat.zero_le _⟩) hS (fun q h => Or.inl h) (fun H locs f_n hq hS => ?_)
          have hZ := hZ.kept (fun a9 h9 => hq a9 (fun z9 => h9 (hAZ a9 ((fun q h => Or.inl h) a9 z9))))
          have f_s := (⟨f_n, f_s.2.kept (fun j hj => hq _ (hNt.1 j hj))⟩ : PsAt G t0 t1 A sz bt pl_1 x_0 H)
          refine bz_ne (tgt := 57) hx hb dX3_readInto_52 (by decide) (fun h_5 => ?_) (fun h_5 => ?_)
          · refine lv_iinc (v := (nI k) + 1) (lv' := [(2, .int ((nI k) + 1)), (0, .ref t0), (1, .ref (A 0))]) hx hb dX3_readInto_57 hl (k := 2) rfl rfl (by decide) rfl (fun ls hl => ?_)
            refine lv_goto (tgt := 11) hx hb dX3_readInto_60 (by decide) ?_
            have hE : q_intoGo sz bt n9 (k + 1) pl_1 x_0 = q_intoGo sz bt (11 - 1) 1 0 (g_clear x) := (by rw [← hV, q_intoGo_s]; (try rw [hy_0]); (try dsimp only); (repeat rw [if_pos h_2]); (repeat rw [if_neg h_3]); (repeat rw [if_neg h_4]); (try rw [hy_1]); (try dsimp only); (repeat rw [if_pos h_5]); first | done | rfl)
            refine ih_k ((k + 1, pl_1, x_0)) _ _ ⟨⟨(show k + 1 ≤ 11 by omega), (by show q_intoGo sz bt (11 - (k + 1)) (k + 1) pl_1 x_0 = _; rw [show 11 - (k + 1) = n9 by omega]; exact hE)⟩, f_s, hS, hZ⟩ (show 11 - (k + 1) < 11 - k by omega) ls ?_
            show lv_has ls 3 [(0, .ref t0), (1, .ref (A 0)), (2, .int (nI (k + 1)))]
            rw [nI_succ]
            exact lv_sub hl [1, 2, 0] rfl
          · refine lv_iconst (v := 0) hx hb dX3_readInto_55 (by decide) ?_
            have hE9 : q_readInto sz bt pl x = (false, pl_1, x_0) := (by (try unfold q_readInto); rw [← hV, q_intoGo_s]; (repeat rw [if_neg h_1]); (try rw [hy_0]); (try dsimp only); (repeat rw [if_pos h_2]); (repeat rw [if_neg h_3]); (repeat rw [if_neg h_4]); (try rw [hy_1]); (try dsimp only); (repeat rw [if_neg h_5]); first | done | rfl)
            exact wr_zret hx hb hr hlocks dX3_readInto_56 hS (by rw [hE9]; exact f_s) (by rw [hE9]; first | done | rfl)
      · refine lv_iconst (v := 1) hx hb dX3_readInto_38 (by decide) ?_
        have hE9 : q_readInto sz bt pl x = (true, pl_0, x_0) := (by (try unfold q_readInto); rw [← hV, q_intoGo_s]; (repeat rw [if_neg h_1]); (try rw [hy_0]); (try dsimp only); (repeat rw [if_pos h_2]); (repeat rw [if_pos h_3]); first | done | rfl)
        exact wr_zret hx hb hr hlocks dX3_readInto_39 hS (by rw [hE9]; exact f_s) (by rw [hE9]; first | done | rfl)
    · refine lv_iconst (v := 0) hx hb dX3_readInto_25 (by decide) ?_
      have hE9 : q_readInto sz bt pl x = (false, pl_0, x_0) := (by (try unfold q_readInto); rw [← hV, q_intoGo_s]; (repeat rw [if_neg h_1]); (try rw [hy_0]); (try dsimp only); (repeat rw [if_neg h_2]); first | done | rfl)
      exact wr_zret hx hb hr hlocks dX3_readInto_26 hS (by rw [hE9]; exact f_s) (by rw [hE9]; first | done | rfl)
theorem c2_X3_readInto (l : Launch) (G : GG) (Z : AM) (t0 t1 : Nat) (A : Nat → Nat) (sz : Nat) (bt : Nat → Int32) (pl : Nat) (x : LawT) (htt : t0 ≠ t1) (hNl : lwN A) (hNt : psN t0 t1 A) (hAZ : ∀ q : Nat, psA t0 A q → Z.1 q) (b9 : Bool) (pl9 : Nat) (x9 : LawT) (hy9 : q_readInto sz bt pl x = (b9, pl9, x9)) : Met l yX3_readInto wsX3_readInto { frames := 29, cells := 0, slots := 0, locals := 1025 } (aP G Z [.ref t0, .ref (A 0)] (fun H => PsAt G t0 t1 A sz bt pl x H)) (wrQ (some (.int (b2i b9))) (fun H => PsAt G t0 t1 A sz bt pl9 x9 H) (psA t0 A)) 0 0 (psA t0 A) := by
  have h9 := c_X3_readInto l G Z t0 t1 A sz bt pl x htt hNl hNt hAZ
  rw [hy9] at h9
  exact h9

/-- the reference while it reads a law: act, end, spot, isWrong, open and the row by themselves -/
def PAt (G : GG) (M : Nat → Nat) (x : MT) (ac en sp : Int32) (wr : Bool) (op : Int32) (sv : Nat → Int32) (H : Heap) : Prop := oA G (M 0) 6 [.int (mTh x), .ref (M 1), .ref (M 2), .int (b2i (mHi x)), .int ac, .int sp, .int en, .int (b2i wr), .int op, .ref (M 3), .ref (M 4), .long (mAl x), .long (mSa x), .ref (M 5), .int (mRa x), .int (mKi x), .int (mNu x), .int (mTv x)] H ∧ iA G 1 (M 1) 1920 sv H ∧ iA G 1 (M 2) 1920 (mIm x) H ∧ (∃ f : Nat → Int32, iA G 2 (M 3) 64 f H) ∧ (∃ f : Nat → Int32, iA G 1 (M 4) 3 f H) ∧ iA G 1 (M 5) 20 (mBo x) H
theorem PAt.rest {G : GG} {M : Nat → Nat} {x : MT} {ac en sp op ac2 en2 sp2 op2 : Int32} {wr wr2 : Bool} {sv : Nat → Int32} {H H1 : Heap} (h : PAt G M x ac en sp wr op sv H) (hN : mN M) (hn : oA G (M 0) 6 [.int (mTh x), .ref (M 1), .ref (M 2), .int (b2i (mHi x)), .int ac2, .int sp2, .int en2, .int (b2i wr2), .int op2, .ref (M 3), .ref (M 4), .long (mAl x), .long (mSa x), .ref (M 5), .int (mRa x), .int (mKi x), .int (mNu x), .int (mTv x)] H1) (hq : ∀ q : Nat, q ≠ M 0 → H1[q]? = H[q]?) : PAt G M x ac2 en2 sp2 wr2 op2 sv H1 := by
  obtain ⟨h0, h1, h2, ⟨g3, h3⟩, ⟨g4, h4⟩, h5⟩ := h
  have k : ∀ j, j < 6 → j ≠ 0 → H1[M j]? = H[M j]? := fun j a b => hq _ (hN j 0 a (by decide) b)
  exact ⟨hn, h1.kept (k 1 (by decide) (by decide)), h2.kept (k 2 (by decide) (by decide)), ⟨g3, h3.kept (k 3 (by decide) (by decide))⟩, ⟨g4, h4.kept (k 4 (by decide) (by decide))⟩, h5.kept (k 5 (by decide) (by decide))⟩
theorem PAt.row {G : GG} {M : Nat → Nat} {x : MT} {ac en sp op : Int32} {wr : Bool} {sv f : Nat → Int32} {H H1 : Heap} (h : PAt G M x ac en sp wr op sv H) (hN : mN M) (hn : iA G 1 (M 1) 1920 f H1) (hq : ∀ q : Nat, q ≠ M 1 → H1[q]? = H[q]?) : PAt G M x ac en sp wr op f H1 := by
  obtain ⟨h0, h1, h2, ⟨g3, h3⟩, ⟨g4, h4⟩, h5⟩ := h
  have k : ∀ j, j < 6 → j ≠ 1 → H1[M j]? = H[M j]? := fun j a b => hq _ (hN j 1 a (by decide) b)
  exact ⟨h0.kept (k 0 (by decide) (by decide)), hn, h2.kept (k 2 (by decide) (by decide)), ⟨g3, h3.kept (k 3 (by decide) (by decide))⟩, ⟨g4, h4.kept (k 4 (by decide) (by decide))⟩, h5.kept (k 5 (by decide) (by decide))⟩
abbrev mPs (x : MT) (ac en sp : Int32) (wr : Bool) (op : Int32) (sv : Nat → Int32) : MT := mSetOp (mSetWr (mSetSp (mSetS (mSetEn (mSetAc x ac) en) sv) sp) wr) op
theorem PAt.to {G : GG} {M : Nat → Nat} {x : MT} {ac en sp op : Int32} {wr : Bool} {sv : Nat → Int32} {H : Heap} (h : PAt G M x ac en sp wr op sv H) : MAt G M (mPs x ac en sp wr op sv) H := h
def m01 (M : Nat → Nat) : Nat → Prop := fun q => q = M 0 ∨ q = M 1
theorem sp_up (b : Bool) (s : Nat) : nI s + b2i b = nI (if b = true then s + 1 else s) := by
  cases b with
  | false => exact Int32.add_zero _
  | true => exact (nI_succ s).symm
/-- what a reading keeps: the spot's bounds, how many steps and overs stand -/
def gd (an en k sp : Nat) (sv : Nat → Int32) : Prop := sp ≤ en ∧ ib 0 ((sp : Int) - k) (sv (786 + nI an).toNatClampNeg) ∧ ib 0 10 (sv (538 + nI an).toNatClampNeg)
theorem op_down (o : Nat) : nI (o + 1) - 1 = nI o := by rw [nI_succ]; exact Int32.add_sub_cancel (nI o) 1
theorem here_lt9 {en sp : Nat} (h : ¬ nI en ≤ nI sp) (hen : en ≤ 120) : sp < en ∨ 2 ^ 31 ≤ sp := by
  rcases Nat.lt_or_ge sp en with q | q
  · exact .inl q
  · rcases Nat.lt_or_ge sp (2 ^ 31) with q2 | q2
    · exact absurd (nI_le q q2) h
    · exact .inr q2
theorem i_X6_here_X6 : ∀ w ∈ wsX60, w ∈ wsX6_here := fun _ h => List.mem_cons_of_mem _ (List.mem_append_right _ h)
theorem k_X6_here_fieldLink_51 : Cond.fieldLink RX6 51 "SameWaterModel" "spot" "I" ∈ wsX6_here := by decide +kernel
theorem k_X6_here_fieldLink_54 : Cond.fieldLink RX6 54 "SameWaterModel" "end" "I" ∈ wsX6_here := by decide +kernel
theorem k_X6_here_fieldLink_9 : Cond.fieldLink RX6 9 "SameWaterModel" "s" "[I" ∈ wsX6_here := by decide +kernel
def r_here (en sp : Nat) (sv : Nat → Int32) : Int32 := if (nI en) ≤ (nI sp) then (-1) else sv (10 + (nI sp)).toNatClampNeg
set_option maxHeartbeats 4000000 in
set_option maxRecDepth 100000 in
theorem c_X6_here (l : Launch) (G : GG) (M : Nat → Nat) (x : MT) (an en sp : Nat) (wr : Bool) (op : Nat) (sv : Nat → Int32)  (hen : en ≤ 120) (hsp : sp ≤ en) : Met l yX6_here wsX6_here { frames := 0, cells := 0, slots := 0, locals := 0 } (roP G [.ref (M 0)] (fun H => PAt G M x (nI an) (nI en) (nI sp) wr (nI op) sv H)) (roQ (some (.int (r_here en sp sv)))) 0 0 nF := by
  refine Met.ofW (cc := cX6_here) (maxL := 1) (ret := (some .int)) (by decide) rfl ?_
  intro p e s m args below meth c s₁ Bd hml hv
  obtain ⟨rfl, hK, hB⟩ := hv
  have hx := Bd.exec
  have hb := Bd.bytes
  have hr := Bd.returns
  have hts := atoms_spec (ws := wsX6_here) Bd.pre
  have hown : s.vm.findClass RX6 = some m.cls := findClass_of_methodNamed Bd.named
  have hlocks := Bd.notSynchronized
  have hC : CallFix p m c cX6_here 1 s _ wsX6_here RX6 := ⟨hx, hb, hml, hown, hts⟩
  have hl := lv_entry ([.ref (M 0)]) (n := 1) (Nat.le_of_ble_eq_true rfl)
  rw [lg_entry_eq]
  generalize (lg_sl ([.ref (M 0)]) ++ List.replicate (1 - (lg_sl ([.ref (M 0)])).length) Slot.unset).toArray = ls at hl ⊢
  have hl : lv_has ls 1 [(0, .ref (M 0))] := hl
  refine lv_aload_n hx hb dX6_here_0 rfl (lv_at hl 0 rfl) ?_
  refine r_get (C := RX6) (T := TX6) (N := 18) hx hb hts i_X6_here_X6 hown hK hB.1 rfl 5 (by decide) k_X6_here_fieldLink_51 rfl rfl dX6_here_1 ?_
  refine lv_aload_n hx hb dX6_here_4 rfl (lv_at hl 0 rfl) ?_
  refine r_get (C := RX6) (T := TX6) (N := 18) hx hb hts i_X6_here_X6 hown hK hB.1 rfl 6 (by decide) k_X6_here_fieldLink_54 rfl rfl dX6_here_5 ?_
  refine join_at (nL := 1) 27 [(0, .ref (M 0))] [.int (if (nI en) ≤ (nI sp) then (-1) else sv (10 + (nI sp)).toNatClampNeg)] (fun ls hl => ?_) (fun J_1 => ?_)
  · exact ro_iret hx hb hr hlocks dX6_here_27 rfl
  · refine lv_icmp_ge (tgt := 26) hx hb dX6_here_8 (by decide) (fun h_2 => ?_) (fun h_2 => ?_)
    · refine lv_iconst (v := (-1)) hx hb dX6_here_26 (by decide) ?_
      have hJ := J_1; (repeat rw [if_pos h_2] at hJ)
      first | exact hJ ls (lv_sub hl [0] rfl) | ((repeat rw [if_pos h_2] at hl); (repeat rw [if_pos h_2]); exact hJ ls (lv_sub hl [0] rfl))
    · refine lv_aload_n hx hb dX6_here_11 rfl (lv_at hl 0 rfl) ?_
      refine r_get (C := RX6) (T := TX6) (N := 18) hx hb hts i_X6_here_X6 hown hK hB.1 rfl 1 (by decide) k_X6_here_fieldLink_9 rfl rfl dX6_here_12 ?_
      refine lv_bipush (v := 10) hx hb dX6_here_15 (by decide +kernel) ?_
      refine lv_aload_n hx hb dX6_here_17 rfl (lv_at hl 0 rfl) ?_
      refine r_get (C := RX6) (T := TX6) (N := 18) hx hb hts i_X6_here_X6 hown hK hB.1 rfl 5 (by decide) k_X6_here_fieldLink_51 rfl rfl dX6_here_18 ?_
      refine lv_iadd hx hb dX6_here_21 ?_
      refine r_iald hx hb hK hB.2.1 (vp_ib (lo := 10) (hi := 129) (ib_add (ib_nI (n := 10) (by decide)) (ib_lt (n := 120) (by have := here_lt9 h_2 hen; omega) (by decide)) (by decide) (by decide)) (by decide) (by decide)) dX6_here_22 ?_
      refine lv_goto (tgt := 27) hx hb dX6_here_23 (by decide) ?_
      have hJ := J_1; (repeat rw [if_neg h_2] at hJ)
      first | exact hJ ls (lv_sub hl [0] rfl) | ((repeat rw [if_neg h_2] at hl); (repeat rw [if_neg h_2]); exact hJ ls (lv_sub hl [0] rfl))
theorem here_no {en sp : Nat} {sv : Nat → Int32} (h : r_here en sp sv ≠ -1) (hen : en ≤ 120) (hsp : sp ≤ en) : sp < en := by
  unfold r_here at h
  split at h
  · exact absurd rfl h
  · rename_i q
    rcases here_lt9 q hen with q | q <;> omega
theorem here_in {en sp : Nat} {sv : Nat → Int32} {a b : Int32} (h : r_in (r_here en sp sv) a b = true) (ha : 0 ≤ a.toInt) (hen : en ≤ 120) (hsp : sp ≤ en) : sp < en := here_no (fun e => by
  have h1 := (in_le h).1
  rw [e] at h1
  have : (-1 : Int32).toInt = -1 := rfl
  omega) hen hsp
theorem here_eq {en sp n : Nat} {sv : Nat → Int32} (h : r_here en sp sv = nI n) (hn : n < 2 ^ 31) (hen : en ≤ 120) (hsp : sp ≤ en) : sp < en := here_no (fun e => by
  rw [h] at e
  have h1 : (nI n).toInt = n := Int32.toInt_ofNat_of_lt hn
  rw [e] at h1
  have : (-1 : Int32).toInt = -1 := rfl
  omega) hen hsp
theorem i_X6_must_X6 : ∀ w ∈ wsX60, w ∈ wsX6_must := fun _ h => List.mem_cons_of_mem _ (List.mem_append_right _ h)
theorem k_X6_must_fieldLink_57 : Cond.fieldLink RX6 57 "SameWaterModel" "isWrong" "Z" ∈ wsX6_must := by decide +kernel
theorem k_X6_must_fieldLink_51 : Cond.fieldLink RX6 51 "SameWaterModel" "spot" "I" ∈ wsX6_must := by decide +kernel
theorem kd_X6_here : yX6_here.cls = RX6 ∧ yX6_here.cls ≠ "java/lang/invoke/MethodHandle" ∧ yX6_here.cls ≠ "java/lang/invoke/VarHandle" ∧ (parseMethodDescriptor yX6_here.desc).map (fun d => d.parameters.length) = some 0 := by decide +kernel
def r_must (an en : Nat) (cq : Int32) (sp : Nat) (wr : Bool) (sv : Nat → Int32) : Nat × Bool := ((if (if (if wr = true then true else if (r_here en sp sv) = cq then false else true) = true then false else true) = true then sp + 1 else sp), (if wr = true then true else if (r_here en sp sv) = cq then false else true))
set_option maxHeartbeats 600000 in
set_option maxRecDepth 100000 in
theorem c_X6_must (l : Launch) (G : GG) (M : Nat → Nat) (x : MT) (an en sp : Nat) (wr : Bool) (op : Nat) (sv : Nat → Int32) (cq : Int32)  (hN : mN M) (hen : en ≤ 120) (hsp : sp ≤ en) : Met l yX6_must wsX6_must { frames := 1, cells := 0, slots := 0, locals := 20 } (roP G [.ref (M 0), .int cq] (fun H => PAt G M x (nI an) (nI en) (nI sp) wr (nI op) sv H)) (wrQ none (fun H => PAt G M x (nI an) (nI en) (nI ((r_must an en cq sp wr sv).1)) ((r_must an en cq sp wr sv).2) (nI op) sv H) (m01 M)) 0 0 (m01 M) := by
  refine Met.ofW (cc := cX6_must) (maxL := 2) (ret := none) (by decide) rfl ?_
  intro p e s m args below meth c s₁ Bd hml hv
  obtain ⟨rfl, hK, hB⟩ := hv
  have hx := Bd.exec
  have hb := Bd.bytes
  have hr := Bd.returns
  have hts := atoms_spec (ws := wsX6_must) Bd.pre
  have hown : s.vm.findClass RX6 = some m.cls := findClass_of_methodNamed Bd.named
  have hlocks := Bd.notSynchronized
  have hC : CallFix p m c cX6_must 2 s _ wsX6_must RX6 := ⟨hx, hb, hml, hown, hts⟩
  have hl := lv_entry ([.ref (M 0), .int cq]) (n := 2) (Nat.le_of_ble_eq_true rfl)
  rw [lg_entry_eq]
  generalize (lg_sl ([.ref (M 0), .int cq]) ++ List.replicate (2 - (lg_sl ([.ref (M 0), .int cq])).length) Slot.unset).toArray = ls at hl ⊢
  have hl : lv_has ls 2 [(0, .ref (M 0)), (1, .int cq)] := hl
  have hS : wS (m01 M) s.heap s.heap [] := wS.rf
  have f_s := hB
  have hZ := trivial
  refine lv_aload_n hx hb dX6_must_0 rfl (lv_at hl 0 rfl) ?_
  refine lv_aload_n hx hb dX6_must_1 rfl (lv_at hl 0 rfl) ?_
  refine r_get (C := RX6) (T := TX6) (N := 18) hx hb hts i_X6_must_X6 hown hK f_s.1 rfl 7 (by decide) k_X6_must_fieldLink_57 rfl rfl dX6_must_2 ?_
  refine join_wr (nL := 2) 21 [(0, .ref (M 0)), (1, .int cq)] [.int (b2i (if wr = true then true else if (r_here en sp sv) = cq then false else true)), .ref (M 0)] (fun H locs => (PAt G M x (nI an) (nI en) (nI sp) wr (nI op) sv H) ∧ wS (m01 M) s.heap H locs ∧ True) (fun H locs hI ls hl => ?_) (fun J_1 => ?_)
  · obtain ⟨f_s, hS, hZ⟩ := hI
    refine w_put (C := RX6) (T := TX6) (N := 18) hx hb hts i_X6_must_X6 tyX6 tyX6_ok nmX6 hown hK f_s.1 hS (.inl rfl) rfl 7 (by decide) k_X6_must_fieldLink_57 rfl rfl (b2i_nar _) (b2i_fit _) (Nat.le_of_ble_eq_true rfl) dX6_must_21 (fun H locs hn hq hS => ?_)
    have f_s : PAt G M x (nI an) (nI en) (nI sp) (if wr = true then true else if (r_here en sp sv) = cq then false else true) (nI op) sv H := f_s.rest hN hn hq
    refine lv_aload_n hx hb dX6_must_24 rfl (lv_at hl 0 rfl) ?_
    refine lv_dup hx hb dX6_must_25 rfl ?_
    refine r_get (C := RX6) (T := TX6) (N := 18) hx hb hts i_X6_must_X6 hown hK f_s.1 rfl 5 (by decide) k_X6_must_fieldLink_51 rfl rfl dX6_must_26 ?_
    refine lv_aload_n hx hb dX6_must_29 rfl (lv_at hl 0 rfl) ?_
    refine r_get (C := RX6) (T := TX6) (N := 18) hx hb hts i_X6_must_X6 hown hK f_s.1 rfl 7 (by decide) k_X6_must_fieldLink_57 rfl rfl dX6_must_30 ?_
    refine join_wr (nL := 2) 41 [(0, .ref (M 0)), (1, .int cq)] [.int (b2i (if (if wr = true then true else if (r_here en sp sv) = cq then false else true) = true then false else true)), .int (nI sp), .ref (M 0)] (fun H locs => (PAt G M x (nI an) (nI en) (nI sp) (if wr = true then true else if (r_here en sp sv) = cq then false else true) (nI op) sv H) ∧ wS (m01 M) s.heap H locs ∧ True) (fun H locs hI ls hl => ?_) (fun J_2 => ?_)
    · obtain ⟨f_s, hS, hZ⟩ := hI
      refine lv_iadd hx hb dX6_must_41 ?_
      refine w_put (C := RX6) (T := TX6) (N := 18) hx hb hts i_X6_must_X6 tyX6 tyX6_ok nmX6 hown hK f_s.1 hS (.inl rfl) rfl 5 (by decide) k_X6_must_fieldLink_51 rfl rfl rfl rfl (Nat.le_of_ble_eq_true rfl) dX6_must_42 (fun H locs hn hq hS => ?_)
      rw [sp_up (if (if wr = true then true else if (r_here en sp sv) = cq then false else true) = true then false else true) sp] at hn
      have f_s : PAt G M x (nI an) (nI en) (nI (if (if (if wr = true then true else if (r_here en sp sv) = cq then false else true) = true then false else true) = true then sp + 1 else sp)) (if wr = true then true else if (r_here en sp sv) = cq then false else true) (nI op) sv H := f_s.rest hN hn hq
      have hE9 : r_must an en cq sp wr sv = ((if (if (if wr = true then true else if (r_here en sp sv) = cq then false else true) = true then false else true) = true then sp + 1 else sp), (if wr = true then true else if (r_here en sp sv) = cq then false else true)) := (by (try unfold r_must); first | done | rfl)
      exact wr_vret hx hb hr hlocks dX6_must_45 hS (by rw [hE9]; exact f_s)
    · refine bz_eq (tgt := 40) hx hb dX6_must_33 (by decide) (fun h_3 => ?_) (fun h_3 => ?_)
      · have h_3 : ¬ ((if wr = true then true else if (r_here en sp sv) = cq then false else true) = true) := h_3
        refine lv_iconst (v := 1) hx hb dX6_must_40 (by decide) ?_
        have hJ := J_2; (repeat rw [if_neg h_3] at hJ)
        (repeat rw [if_neg h_3] at f_s)
        first | exact hJ _ _ ⟨f_s, hS, hZ⟩ ls (lv_sub hl [0, 1] rfl) | ((repeat rw [if_neg h_3] at hl); (repeat rw [if_neg h_3]); (repeat rw [if_neg h_3] at f_s); exact hJ _ _ ⟨f_s, hS, hZ⟩ ls (lv_sub hl [0, 1] rfl))
      · have h_3 : (if wr = true then true else if (r_here en sp sv) = cq then false else true) = true := h_3
        refine lv_iconst (v := 0) hx hb dX6_must_36 (by decide) ?_
        refine lv_goto (tgt := 41) hx hb dX6_must_37 (by decide) ?_
        have hJ := J_2; (repeat rw [if_pos h_3] at hJ)
        (repeat rw [if_pos h_3] at f_s)
        first | exact hJ _ _ ⟨f_s, hS, hZ⟩ ls (lv_sub hl [0, 1] rfl) | ((repeat rw [if_pos h_3] at hl); (repeat rw [if_pos h_3]); (repeat rw [if_pos h_3] at f_s); exact hJ _ _ ⟨f_s, hS, hZ⟩ ls (lv_sub hl [0, 1] rfl))
  · refine bz_ne (tgt := 16) hx hb dX6_must_5 (by decide) (fun h_4 => ?_) (fun h_4 => ?_)
    · have h_4 : wr = true := h_4
      refine lv_iconst (v := 1) hx hb dX6_must_16 (by decide) ?_
      refine lv_goto (tgt := 21) hx hb dX6_must_17 (by decide) ?_
      have hJ := J_1; (repeat rw [if_pos h_4] at hJ)
      (repeat rw [if_pos h_4] at f_s)
      first | exact hJ _ _ ⟨f_s, hS, hZ⟩ ls (lv_sub hl [0, 1] rfl) | ((repeat rw [if_pos h_4] at hl); (repeat rw [if_pos h_4]); (repeat rw [if_pos h_4] at f_s); exact hJ _ _ ⟨f_s, hS, hZ⟩ ls (lv_sub hl [0, 1] rfl))
    · have h_4 : ¬ (wr = true) := h_4
      refine lv_aload_n hx hb dX6_must_8 rfl (lv_at hl 0 rfl) ?_
      refine ro_call (va_runV (As := []) (rest := [.ref (M 0)]) hC (c_X6_here l G M x an en sp wr op sv hen (by omega)) (cwV 0 hts gX6_must_X6_here rfl rfl rfl kd_X6_here ⟨Nat.le_of_ble_eq_true rfl, Nat.le_of_ble_eq_true rfl⟩) (ro_preV hK f_s.1 rfl f_s) rfl rfl hl.1 rfl (lv_room (Nat.le_of_ble_eq_true rfl)) dX6_must_9 ⟨Nat.zero_le _, Nat.zero_le _⟩) ?_
      refine lv_iload_n hx hb dX6_must_12 rfl (lv_at hl 1 rfl) ?_
      refine lv_icmp_eq (tgt := 20) hx hb dX6_must_13 (by decide) (fun h_5 => ?_) (fun h_5 => ?_)
      · have h_5 : (r_here en sp sv) = cq := h_5
        refine lv_iconst (v := 0) hx hb dX6_must_20 (by decide) ?_
        have hJ := J_1; (repeat rw [if_neg h_4] at hJ); (repeat rw [if_pos h_5] at hJ)
        (repeat rw [if_neg h_4] at f_s); (repeat rw [if_pos h_5] at f_s)
        first | exact hJ _ _ ⟨f_s, hS, hZ⟩ ls (lv_sub hl [0, 1] rfl) | ((repeat rw [if_neg h_4] at hl); (repeat rw [if_pos h_5] at hl); (repeat rw [if_neg h_4]); (repeat rw [if_pos h_5]); (repeat rw [if_neg h_4] at f_s); (repeat rw [if_pos h_5] at f_s); exact hJ _ _ ⟨f_s, hS, hZ⟩ ls (lv_sub hl [0, 1] rfl))
      · have h_5 : ¬ ((r_here en sp sv) = cq) := h_5
        refine lv_iconst (v := 1) hx hb dX6_must_16 (by decide) ?_
        refine lv_goto (tgt := 21) hx hb dX6_must_17 (by decide) ?_
        have hJ := J_1; (repeat rw [if_neg h_4] at hJ); (repeat rw [if_neg h_5] at hJ)
        (repeat rw [if_neg h_4] at f_s); (repeat rw [if_neg h_5] at f_s)
        first | exact hJ _ _ ⟨f_s, hS, hZ⟩ ls (lv_sub hl [0, 1] rfl) | ((repeat rw [if_neg h_4] at hl); (repeat rw [if_neg h_5] at hl); (repeat rw [if_neg h_4]); (repeat rw [if_neg h_5]); (repeat rw [if_neg h_4] at f_s); (repeat rw [if_neg h_5] at f_s); exact hJ _ _ ⟨f_s, hS, hZ⟩ ls (lv_sub hl [0, 1] rfl))
theorem c2_X6_must (l : Launch) (G : GG) (M : Nat → Nat) (x : MT) (an en sp : Nat) (wr : Bool) (op : Nat) (sv : Nat → Int32) (cq : Int32)  (hN : mN M) (hen : en ≤ 120) (hsp : sp ≤ en) (sp9 : Nat) (wr9 : Bool) (hy9 : r_must an en cq sp wr sv = (sp9, wr9)) : Met l yX6_must wsX6_must { frames := 1, cells := 0, slots := 0, locals := 20 } (roP G [.ref (M 0), .int cq] (fun H => PAt G M x (nI an) (nI en) (nI sp) wr (nI op) sv H)) (wrQ none (fun H => PAt G M x (nI an) (nI en) (nI sp9) wr9 (nI op) sv H) (m01 M)) 0 0 (m01 M) := by
  have h9 := c_X6_must l G M x an en sp wr op sv cq hN hen hsp
  rw [hy9] at h9
  exact h9
theorem E_must {an en : Nat} {c : Int32} {sp sp2 : Nat} {wr wr2 : Bool} {sv : Nat → Int32} (h : r_must an en c sp wr sv = (sp2, wr2)) (hc : 0 ≤ c.toInt) (hen : en ≤ 120) (hsp : sp ≤ en) : sp ≤ sp2 ∧ sp2 ≤ en ∧ (wr = true → wr2 = true ∧ sp2 = sp) ∧ (wr2 = false → sp2 = sp + 1) := by
  unfold r_must at h
  cases wr with
  | true => cases h; simp; exact hsp
  | false =>
    by_cases q : r_here en sp sv = c
    · have := here_no (en := en) (sp := sp) (sv := sv) (fun e => by rw [q] at e; rw [e] at hc; exact absurd hc (by decide)) hen hsp
      simp [q] at h
      obtain ⟨rfl, rfl⟩ := h
      simp
      omega
    · simp [q] at h
      obtain ⟨rfl, rfl⟩ := h
      simp
      exact hsp
theorem txB_nn (i k : Nat) : 0 ≤ (nI ((txB i).getD k 0)).toInt := by
  have h := txB_get i k
  have e : (nI ((txB i).getD k 0)).toInt = ((txB i).getD k 0 : Nat) := Int32.toInt_ofNat_of_lt (by omega)
  omega
theorem kd_X6_must : yX6_must.cls = RX6 ∧ yX6_must.cls ≠ "java/lang/invoke/MethodHandle" ∧ yX6_must.cls ≠ "java/lang/invoke/VarHandle" ∧ (parseMethodDescriptor yX6_must.desc).map (fun d => d.parameters.length) = some 1 := by decide +kernel
def r_spellGo (an en i : Nat) (sv : Nat → Int32) : Nat → Nat → Nat → Bool → Nat × Bool
  | 0, _, sp_k, wr_k => (sp_k, wr_k)
  | n + 1, k, sp_k, wr_k => (match r_must an en (nI ((txB i).getD k 0)) sp_k wr_k sv with | (sp_0, wr_0) => r_spellGo an en i sv n (k + 1) sp_0 wr_0)
theorem r_spellGo_0 (an en i : Nat) (sv : Nat → Int32) (k : Nat) (sp_k : Nat) (wr_k : Bool) : r_spellGo an en i sv 0 k sp_k wr_k = ((sp_k, wr_k)) := rfl
theorem r_spellGo_s (an en i : Nat) (sv : Nat → Int32) (n k : Nat) (sp_k : Nat) (wr_k : Bool) : r_spellGo an en i sv (n + 1) k sp_k wr_k = ((match r_must an en (nI ((txB i).getD k 0)) sp_k wr_k sv with | (sp_0, wr_0) => r_spellGo an en i sv n (k + 1) sp_0 wr_0)) := rfl
def r_spells (an en : Nat) (i : Nat) (sp : Nat) (wr : Bool) (sv : Nat → Int32) : Nat × Bool := r_spellGo an en i sv ((txB i).length) 0 sp wr
set_option maxHeartbeats 600000 in
set_option maxRecDepth 100000 in
theorem c_X6_spells (l : Launch) (G : GG) (Z : AM) (M : Nat → Nat) (x : MT) (an en sp : Nat) (wr : Bool) (op : Nat) (sv : Nat → Int32) (i : Nat)  (hN : mN M) (hAZ : ∀ q : Nat, m01 M q → Z.1 q) (hen : en ≤ 120) (hsp : sp ≤ en) (hi : i < 15) : Met l yX6_spells wsX6_spells { frames := 4, cells := 0, slots := 0, locals := 85 } (aP G Z [.ref (M 0), .ref (zK Z i)] (fun H => PAt G M x (nI an) (nI en) (nI sp) wr (nI op) sv H)) (wrQ none (fun H => PAt G M x (nI an) (nI en) (nI ((r_spells an en i sp wr sv).1)) ((r_spells an en i sp wr sv).2) (nI op) sv H) (m01 M)) 0 0 (m01 M) := by
  refine Met.ofW (cc := cX6_spells) (maxL := 3) (ret := none) (by decide) rfl ?_
  intro p e s m args below meth c s₁ Bd hml hv
  obtain ⟨rfl, hK, hZ, hB⟩ := hv
  have hx := Bd.exec
  have hb := Bd.bytes
  have hr := Bd.returns
  have hts := atoms_spec (ws := wsX6_spells) Bd.pre
  have hown : s.vm.findClass RX6 = some m.cls := findClass_of_methodNamed Bd.named
  have hlocks := Bd.notSynchronized
  have hC : CallFix p m c cX6_spells 3 s _ wsX6_spells RX6 := ⟨hx, hb, hml, hown, hts⟩
  have hl := lv_entry ([.ref (M 0), .ref (zK Z i)]) (n := 3) (Nat.le_of_ble_eq_true rfl)
  rw [lg_entry_eq]
  generalize (lg_sl ([.ref (M 0), .ref (zK Z i)]) ++ List.replicate (3 - (lg_sl ([.ref (M 0), .ref (zK Z i)])).length) Slot.unset).toArray = ls at hl ⊢
  have hl : lv_has ls 3 [(0, .ref (M 0)), (1, .ref (zK Z i))] := hl
  have hS : wS (m01 M) s.heap s.heap [] := wS.rf
  have f_s := hB
  refine lv_iconst (v := 0) hx hb dX6_spells_0 (by decide) ?_
  refine lv_istore_n (lv' := [(2, .int 0), (0, .ref (M 0)), (1, .ref (zK Z i))]) hx hb dX6_spells_1 rfl hl (by decide) rfl (fun ls hl => ?_)
  refine loop_wr (nL := 3) (α := Nat × Nat × Bool) (fun a9 => [(0, .ref (M 0)), (1, .ref (zK Z i)), (2, .int (nI (a9.1)))]) (fun a9 H locs => ((a9.1 ≤ (txB i).length ∧ r_spellGo an en i sv (((txB i).length) - a9.1) a9.1 a9.2.1 a9.2.2 = r_spellGo an en i sv ((txB i).length) 0 sp wr) ∧ ((a9.2.1) ≤ en)) ∧ (PAt G M x (nI an) (nI en) (nI (a9.2.1)) (a9.2.2) (nI op) sv H) ∧ wS (m01 M) s.heap H locs ∧ amK Z s H) (fun a9 => (txB i).length - a9.1) (0, sp, wr) ⟨⟨⟨(by first | exact Nat.zero_le _ | decide | omega), rfl⟩, hsp⟩, f_s, hS, hZ⟩ (lv_sub hl [1, 2, 0] rfl) (fun a9 H locs hI9 ih_k ls hl => ?_)
  obtain ⟨k, sp_k, wr_k⟩ := a9
  obtain ⟨⟨hI9, hX9⟩, f_s, hS, hZ⟩ := hI9
  have hX9 : sp_k ≤ en := hX9
  have f_s : PAt G M x (nI an) (nI en) (nI sp_k) wr_k (nI op) sv H := f_s
  obtain ⟨hk_k, hV⟩ : k ≤ (txB i).length ∧ r_spellGo an en i sv (((txB i).length) - k) k sp_k wr_k = r_spellGo an en i sv ((txB i).length) 0 sp wr := hI9
  have hl : lv_has ls 3 [(0, .ref (M 0)), (1, .ref (zK Z i)), (2, .int (nI k))] := hl
  refine lv_iload_n hx hb dX6_spells_2 rfl (lv_at hl 2 rfl) ?_
  refine lv_aload_n hx hb dX6_spells_3 rfl (lv_at hl 1 rfl) ?_
  refine ro_call (va_runV (As := []) (rest := [.int (nI k)]) hC (c_J0_length_8abf5 l G Z i hi) (cwV 0 hts gX6_spells_J0_length_8abf5 rfl rfl rfl kd_J0_length_8abf5 ⟨Nat.le_of_ble_eq_true rfl, Nat.le_of_ble_eq_true rfl⟩) (a_preT hK hZ hi trivial) rfl rfl hl.1 rfl (lv_room (Nat.le_of_ble_eq_true rfl)) dX6_spells_4 ⟨Nat.zero_le _, Nat.zero_le _⟩) ?_
  refine lv_icmp_ge (tgt := 25) hx hb dX6_spells_7 (by decide) (fun h_1 => ?_) (fun h_1 => ?_)
  · have hN_k : k = (txB i).length := ge_ex (N := (txB i).length) rfl h_1 hk_k (by have := txB_len i; omega)
    subst hN_k
    rw [Nat.sub_self] at hV
    have hE9 : r_spells an en i sp wr sv = (sp_k, wr_k) := (by (try unfold r_spells); rw [← hV, r_spellGo_0]; first | done | rfl)
    exact wr_vret hx hb hr hlocks dX6_spells_25 hS (by rw [hE9]; exact f_s)
  · have hlt_k : k < (txB i).length := ge_in (N := (txB i).length) rfl h_1 hk_k (by have := txB_len i; omega)
    obtain ⟨n9, hn9⟩ : ∃ n9, ((txB i).length) - k = n9 + 1 := ⟨((txB i).length) - k - 1, by omega⟩
    rw [hn9] at hV
    refine lv_aload_n hx hb dX6_spells_10 rfl (lv_at hl 0 rfl) ?_
    refine lv_aload_n hx hb dX6_spells_11 rfl (lv_at hl 1 rfl) ?_
    refine lv_iload_n hx hb dX6_spells_12 rfl (lv_at hl 2 rfl) ?_
    refine ro_call (va_runV (As := [.int (nI k)]) (rest := [.ref (M 0)]) hC (c_J0_charAt_5068e l G Z i k hi hlt_k) (cwV 1 hts gX6_spells_J0_charAt_5068e rfl rfl rfl kd_J0_charAt_5068e ⟨Nat.le_of_ble_eq_true rfl, Nat.le_of_ble_eq_true rfl⟩) (a_preT hK hZ hi trivial) rfl rfl hl.1 rfl (lv_room (Nat.le_of_ble_eq_true rfl)) dX6_spells_13 ⟨Nat.zero_le _, Nat.zero_le _⟩) ?_
    obtain ⟨⟨sp_0, wr_0⟩, hy_0⟩ : ∃ z9, r_must an en (nI ((txB i).getD k 0)) sp_k wr_k sv = z9 := ⟨_, rfl⟩
    refine wr_callv (va_runV (As := [.int (nI ((txB i).getD k 0))]) (rest := []) hC (c2_X6_must l G M x an en sp_k wr_k op sv (nI ((txB i).getD k 0)) hN hen (by omega) sp_0 wr_0 hy_0) (cwV 1 hts gX6_spells_X6_must rfl rfl rfl kd_X6_must ⟨Nat.le_of_ble_eq_true rfl, Nat.le_of_ble_eq_true rfl⟩) (ro_preV hK f_s.1 rfl f_s) rfl rfl hl.1 rfl (lv_room (Nat.le_of_ble_eq_true rfl)) dX6_spells_16 ⟨Nat.zero_le _, Nat.zero_le _⟩) hS (fun q h => h) (fun H locs f_n hq hS => ?_)
    have hZ := hZ.kept (fun a9 h9 => hq a9 (fun z9 => h9 (hAZ a9 ((fun q h => h) a9 z9))))
    have f_s := f_n
    have hq_0 := E_must hy_0 (by first | decide | exact txB_nn _ _) hen (by omega)
    refine lv_iinc (v := (nI k) + 1) (lv' := [(2, .int ((nI k) + 1)), (0, .ref (M 0)), (1, .ref (zK Z i))]) hx hb dX6_spells_19 hl (k := 2) rfl rfl (by decide) rfl (fun ls hl => ?_)
    refine lv_goto (tgt := 2) hx hb dX6_spells_22 (by decide) ?_
    have hE : r_spellGo an en i sv n9 (k + 1) sp_0 wr_0 = r_spellGo an en i sv ((txB i).length) 0 sp wr := (by rw [← hV, r_spellGo_s]; (try rw [hy_0]); (try dsimp only); first | done | rfl)
    refine ih_k ((k + 1, sp_0, wr_0)) _ _ ⟨⟨⟨(show k + 1 ≤ (txB i).length by omega), (by show r_spellGo an en i sv (((txB i).length) - (k + 1)) (k + 1) sp_0 wr_0 = _; rw [show ((txB i).length) - (k + 1) = n9 by omega]; exact hE)⟩, (show sp_0 ≤ en by omega)⟩, f_s, hS, hZ⟩ (show ((txB i).length) - (k + 1) < ((txB i).length) - k by omega) ls ?_
    show lv_has ls 3 [(0, .ref (M 0)), (1, .ref (zK Z i)), (2, .int (nI (k + 1)))]
    rw [nI_succ]
    exact lv_sub hl [1, 2, 0] rfl
theorem c2_X6_spells (l : Launch) (G : GG) (Z : AM) (M : Nat → Nat) (x : MT) (an en sp : Nat) (wr : Bool) (op : Nat) (sv : Nat → Int32) (i : Nat)  (hN : mN M) (hAZ : ∀ q : Nat, m01 M q → Z.1 q) (hen : en ≤ 120) (hsp : sp ≤ en) (hi : i < 15) (sp9 : Nat) (wr9 : Bool) (hy9 : r_spells an en i sp wr sv = (sp9, wr9)) : Met l yX6_spells wsX6_spells { frames := 4, cells := 0, slots := 0, locals := 85 } (aP G Z [.ref (M 0), .ref (zK Z i)] (fun H => PAt G M x (nI an) (nI en) (nI sp) wr (nI op) sv H)) (wrQ none (fun H => PAt G M x (nI an) (nI en) (nI sp9) wr9 (nI op) sv H) (m01 M)) 0 0 (m01 M) := by
  have h9 := c_X6_spells l G Z M x an en sp wr op sv i hN hAZ hen hsp hi
  rw [hy9] at h9
  exact h9
theorem E_spellGo {an en i : Nat} {sv : Nat → Int32} (hen : en ≤ 120) : ∀ (n k sp sp2 : Nat) (wr wr2 : Bool), r_spellGo an en i sv n k sp wr = (sp2, wr2) → sp ≤ en → sp ≤ sp2 ∧ sp2 ≤ en ∧ (wr = true → wr2 = true ∧ sp2 = sp)
  | 0, k, sp, sp2, wr, wr2, h, hs => by
    cases h
    exact ⟨Nat.le_refl _, hs, fun e => ⟨e, rfl⟩⟩
  | n + 1, k, sp, sp2, wr, wr2, h, hs => by
    rw [r_spellGo_s] at h
    obtain ⟨⟨a, b⟩, e⟩ : ∃ z9, r_must an en (nI ((txB i).getD k 0)) sp wr sv = z9 := ⟨_, rfl⟩
    rw [e] at h
    have h1 := E_must e (txB_nn _ _) hen hs
    have h2 := E_spellGo hen n (k + 1) a sp2 b wr2 h h1.2.1
    refine ⟨by omega, h2.2.1, fun q => ?_⟩
    have h3 := h1.2.2.1 q
    have h4 := h2.2.2 h3.1
    exact ⟨h4.1, by omega⟩
theorem E_spells {an en i : Nat} {sp sp2 : Nat} {wr wr2 : Bool} {sv : Nat → Int32} (h : r_spells an en i sp wr sv = (sp2, wr2)) (hen : en ≤ 120) (hsp : sp ≤ en) : sp ≤ sp2 ∧ sp2 ≤ en ∧ (wr = true → wr2 = true ∧ sp2 = sp) := E_spellGo hen _ _ _ _ _ _ h hsp
theorem i_X6_figures_X6 : ∀ w ∈ wsX60, w ∈ wsX6_figures := fun _ h => List.mem_cons_of_mem _ (List.mem_append_right _ h)
theorem k_X6_figures_fieldLink_57 : Cond.fieldLink RX6 57 "SameWaterModel" "isWrong" "Z" ∈ wsX6_figures := by decide +kernel
theorem k_X6_figures_fieldLink_51 : Cond.fieldLink RX6 51 "SameWaterModel" "spot" "I" ∈ wsX6_figures := by decide +kernel
def r_figGo (an en : Nat) (sv : Nat → Int32) : Nat → Nat → Int32 → Nat → Bool → Int32 × Nat × Bool
  | 0, _, v, sp_k, wr_k => (v, sp_k, wr_k)
  | n + 1, k, v, sp_k, wr_k => if wr_k = true then (v, sp_k, wr_k) else if (r_in (r_here en sp_k sv) 48 57) = true then if (nI k) = 0 then r_figGo an en sv n (k + 1) (((10 * v) + (r_here en sp_k sv)) - 48) (sp_k + 1) wr_k else if v ≤ 0 then (v, sp_k, wr_k) else r_figGo an en sv n (k + 1) (((10 * v) + (r_here en sp_k sv)) - 48) (sp_k + 1) wr_k else (v, sp_k, wr_k)
theorem r_figGo_0 (an en : Nat) (sv : Nat → Int32) (k : Nat) (v : Int32) (sp_k : Nat) (wr_k : Bool) : r_figGo an en sv 0 k v sp_k wr_k = ((v, sp_k, wr_k)) := rfl
theorem r_figGo_s (an en : Nat) (sv : Nat → Int32) (n k : Nat) (v : Int32) (sp_k : Nat) (wr_k : Bool) : r_figGo an en sv (n + 1) k v sp_k wr_k = (if wr_k = true then (v, sp_k, wr_k) else if (r_in (r_here en sp_k sv) 48 57) = true then if (nI k) = 0 then r_figGo an en sv n (k + 1) (((10 * v) + (r_here en sp_k sv)) - 48) (sp_k + 1) wr_k else if v ≤ 0 then (v, sp_k, wr_k) else r_figGo an en sv n (k + 1) (((10 * v) + (r_here en sp_k sv)) - 48) (sp_k + 1) wr_k else (v, sp_k, wr_k)) := rfl
def r_figures (an en : Nat) (sp : Nat) (wr : Bool) (sv : Nat → Int32) : Int32 × Nat × Bool := r_figGo an en sv 3 0 0 sp (if wr = true then true else if (r_in (r_here en sp sv) 48 57) = true then false else true)
set_option maxHeartbeats 600000 in
set_option maxRecDepth 100000 in
theorem c_X6_figures (l : Launch) (G : GG) (M : Nat → Nat) (x : MT) (an en sp : Nat) (wr : Bool) (op : Nat) (sv : Nat → Int32)  (hN : mN M) (hen : en ≤ 120) (hsp : sp ≤ en) : Met l yX6_figures wsX6_figures { frames := 1, cells := 0, slots := 0, locals := 22 } (roP G [.ref (M 0)] (fun H => PAt G M x (nI an) (nI en) (nI sp) wr (nI op) sv H)) (wrQ (some (.int ((r_figures an en sp wr sv).1))) (fun H => PAt G M x (nI an) (nI en) (nI ((r_figures an en sp wr sv).2.1)) ((r_figures an en sp wr sv).2.2) (nI op) sv H) (m01 M)) 0 0 (m01 M) := by
  refine Met.ofW (cc := cX6_figures) (maxL := 3) (ret := (some .int)) (by decide) rfl ?_
  intro p e s m args below meth c s₁ Bd hml hv
  obtain ⟨rfl, hK, hB⟩ := hv
  have hx := Bd.exec
  have hb := Bd.bytes
  have hr := Bd.returns
  have hts := atoms_spec (ws := wsX6_figures) Bd.pre
  have hown : s.vm.findClass RX6 = some m.cls := findClass_of_methodNamed Bd.named
  have hlocks := Bd.notSynchronized
  have hC : CallFix p m c cX6_figures 3 s _ wsX6_figures RX6 := ⟨hx, hb, hml, hown, hts⟩
  have hl := lv_entry ([.ref (M 0)]) (n := 3) (Nat.le_of_ble_eq_true rfl)
  rw [lg_entry_eq]
  generalize (lg_sl ([.ref (M 0)]) ++ List.replicate (3 - (lg_sl ([.ref (M 0)])).length) Slot.unset).toArray = ls at hl ⊢
  have hl : lv_has ls 3 [(0, .ref (M 0))] := hl
  have hS : wS (m01 M) s.heap s.heap [] := wS.rf
  have f_s := hB
  have hZ := trivial
  refine lv_aload_n hx hb dX6_figures_0 rfl (lv_at hl 0 rfl) ?_
  refine lv_aload_n hx hb dX6_figures_1 rfl (lv_at hl 0 rfl) ?_
  refine r_get (C := RX6) (T := TX6) (N := 18) hx hb hts i_X6_figures_X6 hown hK f_s.1 rfl 7 (by decide) k_X6_figures_fieldLink_57 rfl rfl dX6_figures_2 ?_
  refine join_wr (nL := 3) 27 [(0, .ref (M 0))] [.int (b2i (if wr = true then true else if (r_in (r_here en sp sv) 48 57) = true then false else true)), .ref (M 0)] (fun H locs => (PAt G M x (nI an) (nI en) (nI sp) wr (nI op) sv H) ∧ wS (m01 M) s.heap H locs ∧ True) (fun H locs hI ls hl => ?_) (fun J_1 => ?_)
  · obtain ⟨f_s, hS, hZ⟩ := hI
    refine w_put (C := RX6) (T := TX6) (N := 18) hx hb hts i_X6_figures_X6 tyX6 tyX6_ok nmX6 hown hK f_s.1 hS (.inl rfl) rfl 7 (by decide) k_X6_figures_fieldLink_57 rfl rfl (b2i_nar _) (b2i_fit _) (Nat.le_of_ble_eq_true rfl) dX6_figures_27 (fun H locs hn hq hS => ?_)
    have f_s : PAt G M x (nI an) (nI en) (nI sp) (if wr = true then true else if (r_in (r_here en sp sv) 48 57) = true then false else true) (nI op) sv H := f_s.rest hN hn hq
    refine lv_iconst (v := 0) hx hb dX6_figures_30 (by decide) ?_
    refine lv_istore_n (lv' := [(1, .int 0), (0, .ref (M 0))]) hx hb dX6_figures_31 rfl hl (by decide) rfl (fun ls hl => ?_)
    refine lv_iconst (v := 0) hx hb dX6_figures_32 (by decide) ?_
    refine lv_istore_n (lv' := [(2, .int 0), (1, .int 0), (0, .ref (M 0))]) hx hb dX6_figures_33 rfl hl (by decide) rfl (fun ls hl => ?_)
    refine loop_wr (nL := 3) (α := Nat × Int32 × Nat × Bool) (fun a9 => [(0, .ref (M 0)), (1, .int (a9.2.1)), (2, .int (nI (a9.1)))]) (fun a9 H locs => ((a9.1 ≤ 3 ∧ r_figGo an en sv (3 - a9.1) a9.1 a9.2.1 a9.2.2.1 a9.2.2.2 = r_figGo an en sv 3 0 0 sp (if wr = true then true else if (r_in (r_here en sp sv) 48 57) = true then false else true)) ∧ ((a9.2.2.1) ≤ en)) ∧ (PAt G M x (nI an) (nI en) (nI (a9.2.2.1)) (a9.2.2.2) (nI op) sv H) ∧ wS (m01 M) s.heap H locs ∧ True) (fun a9 => 3 - a9.1) (0, 0, sp, (if wr = true then true else if (r_in (r_here en sp sv) 48 57) = true then false else true)) ⟨⟨⟨(by first | exact Nat.zero_le _ | decide | omega), rfl⟩, hsp⟩, f_s, hS, hZ⟩ (lv_sub hl [2, 1, 0] rfl) (fun a9 H locs hI9 ih_k ls hl => ?_)
    obtain ⟨k, v, sp_k, wr_k⟩ := a9
    obtain ⟨⟨hI9, hX9⟩, f_s, hS, hZ⟩ := hI9
    have hX9 : sp_k ≤ en := hX9
    have f_s : PAt G M x (nI an) (nI en) (nI sp_k) wr_k (nI op) sv H := f_s
    obtain ⟨hk_k, hV⟩ : k ≤ 3 ∧ r_figGo an en sv (3 - k) k v sp_k wr_k = r_figGo an en sv 3 0 0 sp (if wr = true then true else if (r_in (r_here en sp sv) 48 57) = true then false else true) := hI9
    have hl : lv_has ls 3 [(0, .ref (M 0)), (1, .int v), (2, .int (nI k))] := hl
    refine lv_iload_n hx hb dX6_figures_34 rfl (lv_at hl 2 rfl) ?_
    refine lv_iconst (v := 3) hx hb dX6_figures_35 (by decide) ?_
    refine lv_icmp_ge (tgt := 97) hx hb dX6_figures_36 (by decide) (fun h_2 => ?_) (fun h_2 => ?_)
    · have hN_k : k = 3 := ge_ex (N := 3) rfl h_2 hk_k (by omega)
      subst hN_k
      rw [Nat.sub_self] at hV
      refine lv_iload_n hx hb dX6_figures_97 rfl (lv_at hl 1 rfl) ?_
      have hE9 : r_figures an en sp wr sv = (v, sp_k, wr_k) := (by (try unfold r_figures); rw [← hV, r_figGo_0]; first | done | rfl)
      exact wr_iret hx hb hr hlocks dX6_figures_98 hS (by rw [hE9]; exact f_s) (by rw [hE9]; first | done | rfl)
    · have hlt_k : k < 3 := ge_in (N := 3) rfl h_2 hk_k (by omega)
      obtain ⟨n9, hn9⟩ : ∃ n9, 3 - k = n9 + 1 := ⟨3 - k - 1, by omega⟩
      rw [hn9] at hV
      refine lv_aload_n hx hb dX6_figures_39 rfl (lv_at hl 0 rfl) ?_
      refine r_get (C := RX6) (T := TX6) (N := 18) hx hb hts i_X6_figures_X6 hown hK f_s.1 rfl 7 (by decide) k_X6_figures_fieldLink_57 rfl rfl dX6_figures_40 ?_
      refine bz_ne (tgt := 97) hx hb dX6_figures_43 (by decide) (fun h_3 => ?_) (fun h_3 => ?_)
      · have h_3 : wr_k = true := h_3
        refine lv_iload_n hx hb dX6_figures_97 rfl (lv_at hl 1 rfl) ?_
        have hE9 : r_figures an en sp wr sv = (v, sp_k, wr_k) := (by (try unfold r_figures); rw [← hV, r_figGo_s]; (repeat rw [if_neg h_2]); (repeat rw [if_pos h_3]); first | done | rfl)
        exact wr_iret hx hb hr hlocks dX6_figures_98 hS (by rw [hE9]; exact f_s) (by rw [hE9]; first | done | rfl)
      · have h_3 : ¬ (wr_k = true) := h_3
        refine lv_aload_n hx hb dX6_figures_46 rfl (lv_at hl 0 rfl) ?_
        refine ro_call (va_runV (As := []) (rest := []) hC (c_X6_here l G M x an en sp_k wr_k op sv hen (by omega)) (cwV 0 hts gX6_figures_X6_here rfl rfl rfl kd_X6_here ⟨Nat.le_of_ble_eq_true rfl, Nat.le_of_ble_eq_true rfl⟩) (ro_preV hK f_s.1 rfl f_s) rfl rfl hl.1 rfl (lv_room (Nat.le_of_ble_eq_true rfl)) dX6_figures_47 ⟨Nat.zero_le _, Nat.zero_le _⟩) ?_
        refine lv_bipush (v := 48) hx hb dX6_figures_50 (by decide +kernel) ?_
        refine lv_bipush (v := 57) hx hb dX6_figures_52 (by decide +kernel) ?_
        refine ro_call (va_runS (As := [.int (r_here en sp_k sv), .int 48, .int 57]) (rest := []) hC (c_X6_in l G (r_here en sp_k sv) 48 57) (va_cwS 3 hts gX6_figures_X6_in rfl rfl rfl kd_X6_in ⟨Nat.le_of_ble_eq_true rfl, Nat.le_of_ble_eq_true rfl⟩) (ro_preS hK trivial) rfl rfl hl.1 rfl (lv_room (Nat.le_of_ble_eq_true rfl)) dX6_figures_54 ⟨Nat.zero_le _, Nat.zero_le _⟩) ?_
        refine bz_eq (tgt := 97) hx hb dX6_figures_57 (by decide) (fun h_4 => ?_) (fun h_4 => ?_)
        · have h_4 : ¬ ((r_in (r_here en sp_k sv) 48 57) = true) := h_4
          refine lv_iload_n hx hb dX6_figures_97 rfl (lv_at hl 1 rfl) ?_
          have hE9 : r_figures an en sp wr sv = (v, sp_k, wr_k) := (by (try unfold r_figures); rw [← hV, r_figGo_s]; (repeat rw [if_neg h_2]); (repeat rw [if_neg h_3]); (repeat rw [if_neg h_4]); first | done | rfl)
          exact wr_iret hx hb hr hlocks dX6_figures_98 hS (by rw [hE9]; exact f_s) (by rw [hE9]; first | done | rfl)
        · have h_4 : (r_in (r_here en sp_k sv) 48 57) = true := h_4
          refine lv_iload_n hx hb dX6_figures_60 rfl (lv_at hl 2 rfl) ?_
          refine lv_if_eq (tgt := 68) hx hb dX6_figures_61 (by decide) (fun h_5 => ?_) (fun h_5 => ?_)
          · have h_5 : (nI k) = 0 := h_5
            refine lv_bipush (v := 10) hx hb dX6_figures_68 (by decide +kernel) ?_
            refine lv_iload_n hx hb dX6_figures_70 rfl (lv_at hl 1 rfl) ?_
            refine lv_imul hx hb dX6_figures_71 ?_
            refine lv_aload_n hx hb dX6_figures_72 rfl (lv_at hl 0 rfl) ?_
            refine ro_call (va_runV (As := []) (rest := [.int (10 * v)]) hC (c_X6_here l G M x an en sp_k wr_k op sv hen (by omega)) (cwV 0 hts gX6_figures_X6_here rfl rfl rfl kd_X6_here ⟨Nat.le_of_ble_eq_true rfl, Nat.le_of_ble_eq_true rfl⟩) (ro_preV hK f_s.1 rfl f_s) rfl rfl hl.1 rfl (lv_room (Nat.le_of_ble_eq_true rfl)) dX6_figures_73 ⟨Nat.zero_le _, Nat.zero_le _⟩) ?_
            refine lv_iadd hx hb dX6_figures_76 ?_
            refine lv_bipush (v := 48) hx hb dX6_figures_77 (by decide +kernel) ?_
            refine lv_isub hx hb dX6_figures_79 ?_
            refine lv_istore_n (lv' := [(1, .int (((10 * v) + (r_here en sp_k sv)) - 48)), (0, .ref (M 0)), (2, .int (nI k))]) hx hb dX6_figures_80 rfl hl (by decide) rfl (fun ls hl => ?_)
            refine lv_aload_n hx hb dX6_figures_81 rfl (lv_at hl 1 rfl) ?_
            refine lv_dup hx hb dX6_figures_82 rfl ?_
            refine r_get (C := RX6) (T := TX6) (N := 18) hx hb hts i_X6_figures_X6 hown hK f_s.1 rfl 5 (by decide) k_X6_figures_fieldLink_51 rfl rfl dX6_figures_83 ?_
            refine lv_iconst (v := 1) hx hb dX6_figures_86 (by decide) ?_
            refine lv_iadd hx hb dX6_figures_87 ?_
            refine w_put (C := RX6) (T := TX6) (N := 18) hx hb hts i_X6_figures_X6 tyX6 tyX6_ok nmX6 hown hK f_s.1 hS (.inl rfl) rfl 5 (by decide) k_X6_figures_fieldLink_51 rfl rfl rfl rfl (Nat.le_of_ble_eq_true rfl) dX6_figures_88 (fun H locs hn hq hS => ?_)
            rw [← nI_succ] at hn
            have f_s : PAt G M x (nI an) (nI en) (nI (sp_k + 1)) wr_k (nI op) sv H := f_s.rest hN hn hq
            refine lv_iinc (v := (nI k) + 1) (lv' := [(2, .int ((nI k) + 1)), (1, .int (((10 * v) + (r_here en sp_k sv)) - 48)), (0, .ref (M 0))]) hx hb dX6_figures_91 hl (k := 2) rfl rfl (by decide) rfl (fun ls hl => ?_)
            refine lv_goto (tgt := 34) hx hb dX6_figures_94 (by decide) ?_
            have hE : r_figGo an en sv n9 (k + 1) (((10 * v) + (r_here en sp_k sv)) - 48) (sp_k + 1) wr_k = r_figGo an en sv 3 0 0 sp (if wr = true then true else if (r_in (r_here en sp sv) 48 57) = true then false else true) := (by rw [← hV, r_figGo_s]; (repeat rw [if_neg h_3]); (repeat rw [if_pos h_4]); (repeat rw [if_pos h_5]); first | done | rfl)
            refine ih_k ((k + 1, ((10 * v) + (r_here en sp_k sv)) - 48, sp_k + 1, wr_k)) _ _ ⟨⟨⟨(show k + 1 ≤ 3 by omega), (by show r_figGo an en sv (3 - (k + 1)) (k + 1) (((10 * v) + (r_here en sp_k sv)) - 48) (sp_k + 1) wr_k = _; rw [show 3 - (k + 1) = n9 by omega]; exact hE)⟩, (by first | exact hX9 | exact here_in ‹_› (by decide) hen hX9)⟩, f_s, hS, hZ⟩ (show 3 - (k + 1) < 3 - k by omega) ls ?_
            show lv_has ls 3 [(0, .ref (M 0)), (1, .int (((10 * v) + (r_here en sp_k sv)) - 48)), (2, .int (nI (k + 1)))]
            rw [nI_succ]
            exact lv_sub hl [2, 1, 0] rfl
          · have h_5 : ¬ ((nI k) = 0) := h_5
            refine lv_iload_n hx hb dX6_figures_64 rfl (lv_at hl 1 rfl) ?_
            refine lv_if_le (tgt := 97) hx hb dX6_figures_65 (by decide) (fun h_6 => ?_) (fun h_6 => ?_)
            · have h_6 : v ≤ 0 := h_6
              refine lv_iload_n hx hb dX6_figures_97 rfl (lv_at hl 1 rfl) ?_
              have hE9 : r_figures an en sp wr sv = (v, sp_k, wr_k) := (by (try unfold r_figures); rw [← hV, r_figGo_s]; (repeat rw [if_neg h_2]); (repeat rw [if_neg h_3]); (repeat rw [if_pos h_4]); (repeat rw [if_neg h_5]); (repeat rw [if_pos h_6]); first | done | rfl)
              exact wr_iret hx hb hr hlocks dX6_figures_98 hS (by rw [hE9]; exact f_s) (by rw [hE9]; first | done | rfl)
            · have h_6 : ¬ (v ≤ 0) := h_6
              refine lv_bipush (v := 10) hx hb dX6_figures_68 (by decide +kernel) ?_
              refine lv_iload_n hx hb dX6_figures_70 rfl (lv_at hl 1 rfl) ?_
              refine lv_imul hx hb dX6_figures_71 ?_
              refine lv_aload_n hx hb dX6_figures_72 rfl (lv_at hl 0 rfl) ?_
              refine ro_call (va_runV (As := []) (rest := [.int (10 * v)]) hC (c_X6_here l G M x an en sp_k wr_k op sv hen (by omega)) (cwV 0 hts gX6_figures_X6_here rfl rfl rfl kd_X6_here ⟨Nat.le_of_ble_eq_true rfl, Nat.le_of_ble_eq_true rfl⟩) (ro_preV hK f_s.1 rfl f_s) rfl rfl hl.1 rfl (lv_room (Nat.le_of_ble_eq_true rfl)) dX6_figures_73 ⟨Nat.zero_le _, Nat.zero_le _⟩) ?_
              refine lv_iadd hx hb dX6_figures_76 ?_
              refine lv_bipush (v := 48) hx hb dX6_figures_77 (by decide +kernel) ?_
              refine lv_isub hx hb dX6_figures_79 ?_
              refine lv_istore_n (lv' := [(1, .int (((10 * v) + (r_here en sp_k sv)) - 48)), (0, .ref (M 0)), (2, .int (nI k))]) hx hb dX6_figures_80 rfl hl (by decide) rfl (fun ls hl => ?_)
              refine lv_aload_n hx hb dX6_figures_81 rfl (lv_at hl 1 rfl) ?_
              refine lv_dup hx hb dX6_figures_82 rfl ?_
              refine r_get (C := RX6) (T := TX6) (N := 18) hx hb hts i_X6_figures_X6 hown hK f_s.1 rfl 5 (by decide) k_X6_figures_fieldLink_51 rfl rfl dX6_figures_83 ?_
              refine lv_iconst (v := 1) hx hb dX6_figures_86 (by decide) ?_
              refine lv_iadd hx hb dX6_figures_87 ?_
              refine w_put (C := RX6) (T := TX6) (N := 18) hx hb hts i_X6_figures_X6 tyX6 tyX6_ok nmX6 hown hK f_s.1 hS (.inl rfl) rfl 5 (by decide) k_X6_figures_fieldLink_51 rfl rfl rfl rfl (Nat.le_of_ble_eq_true rfl) dX6_figures_88 (fun H locs hn hq hS => ?_)
              rw [← nI_succ] at hn
              have f_s : PAt G M x (nI an) (nI en) (nI (sp_k + 1)) wr_k (nI op) sv H := f_s.rest hN hn hq
              refine lv_iinc (v := (nI k) + 1) (lv' := [(2, .int ((nI k) + 1)), (1, .int (((10 * v) + (r_here en sp_k sv)) - 48)), (0, .ref (M 0))]) hx hb dX6_figures_91 hl (k := 2) rfl rfl (by decide) rfl (fun ls hl => ?_)
              refine lv_goto (tgt := 34) hx hb dX6_figures_94 (by decide) ?_
              have hE : r_figGo an en sv n9 (k + 1) (((10 * v) + (r_here en sp_k sv)) - 48) (sp_k + 1) wr_k = r_figGo an en sv 3 0 0 sp (if wr = true then true else if (r_in (r_here en sp sv) 48 57) = true then false else true) := (by rw [← hV, r_figGo_s]; (repeat rw [if_neg h_3]); (repeat rw [if_pos h_4]); (repeat rw [if_neg h_5]); (repeat rw [if_neg h_6]); first | done | rfl)
              refine ih_k ((k + 1, ((10 * v) + (r_here en sp_k sv)) - 48, sp_k + 1, wr_k)) _ _ ⟨⟨⟨(show k + 1 ≤ 3 by omega), (by show r_figGo an en sv (3 - (k + 1)) (k + 1) (((10 * v) + (r_here en sp_k sv)) - 48) (sp_k + 1) wr_k = _; rw [show 3 - (k + 1) = n9 by omega]; exact hE)⟩, (by first | exact hX9 | exact here_in ‹_› (by decide) hen hX9)⟩, f_s, hS, hZ⟩ (show 3 - (k + 1) < 3 - k by omega) ls ?_
              show lv_has ls 3 [(0, .ref (M 0)), (1, .int (((10 * v) + (r_here en sp_k sv)) - 48)), (2, .int (nI (k + 1)))]
              rw [nI_succ]
              exact lv_sub hl [2, 1, 0] rfl
  · refine bz_ne (tgt := 22) hx hb dX6_figures_5 (by decide) (fun h_7 => ?_) (fun h_7 => ?_)
    · have h_7 : wr = true := h_7
      refine lv_iconst (v := 1) hx hb dX6_figures_22 (by decide) ?_
      refine lv_goto (tgt := 27) hx hb dX6_figures_23 (by decide) ?_
      have hJ := J_1; (repeat rw [if_pos h_7] at hJ)
      (repeat rw [if_pos h_7] at f_s)
      first | exact hJ _ _ ⟨f_s, hS, hZ⟩ ls (lv_sub hl [0] rfl) | ((repeat rw [if_pos h_7] at hl); (repeat rw [if_pos h_7]); (repeat rw [if_pos h_7] at f_s); exact hJ _ _ ⟨f_s, hS, hZ⟩ ls (lv_sub hl [0] rfl))
    · have h_7 : ¬ (wr = true) := h_7
      refine lv_aload_n hx hb dX6_figures_8 rfl (lv_at hl 0 rfl) ?_
      refine ro_call (va_runV (As := []) (rest := [.ref (M 0)]) hC (c_X6_here l G M x an en sp wr op sv hen (by omega)) (cwV 0 hts gX6_figures_X6_here rfl rfl rfl kd_X6_here ⟨Nat.le_of_ble_eq_true rfl, Nat.le_of_ble_eq_true rfl⟩) (ro_preV hK f_s.1 rfl f_s) rfl rfl hl.1 rfl (lv_room (Nat.le_of_ble_eq_true rfl)) dX6_figures_9 ⟨Nat.zero_le _, Nat.zero_le _⟩) ?_
      refine lv_bipush (v := 48) hx hb dX6_figures_12 (by decide +kernel) ?_
      refine lv_bipush (v := 57) hx hb dX6_figures_14 (by decide +kernel) ?_
      refine ro_call (va_runS (As := [.int (r_here en sp sv), .int 48, .int 57]) (rest := [.ref (M 0)]) hC (c_X6_in l G (r_here en sp sv) 48 57) (va_cwS 3 hts gX6_figures_X6_in rfl rfl rfl kd_X6_in ⟨Nat.le_of_ble_eq_true rfl, Nat.le_of_ble_eq_true rfl⟩) (ro_preS hK trivial) rfl rfl hl.1 rfl (lv_room (Nat.le_of_ble_eq_true rfl)) dX6_figures_16 ⟨Nat.zero_le _, Nat.zero_le _⟩) ?_
      refine bz_ne (tgt := 26) hx hb dX6_figures_19 (by decide) (fun h_8 => ?_) (fun h_8 => ?_)
      · have h_8 : (r_in (r_here en sp sv) 48 57) = true := h_8
        refine lv_iconst (v := 0) hx hb dX6_figures_26 (by decide) ?_
        have hJ := J_1; (repeat rw [if_neg h_7] at hJ); (repeat rw [if_pos h_8] at hJ)
        (repeat rw [if_neg h_7] at f_s); (repeat rw [if_pos h_8] at f_s)
        first | exact hJ _ _ ⟨f_s, hS, hZ⟩ ls (lv_sub hl [0] rfl) | ((repeat rw [if_neg h_7] at hl); (repeat rw [if_pos h_8] at hl); (repeat rw [if_neg h_7]); (repeat rw [if_pos h_8]); (repeat rw [if_neg h_7] at f_s); (repeat rw [if_pos h_8] at f_s); exact hJ _ _ ⟨f_s, hS, hZ⟩ ls (lv_sub hl [0] rfl))
      · have h_8 : ¬ ((r_in (r_here en sp sv) 48 57) = true) := h_8
        refine lv_iconst (v := 1) hx hb dX6_figures_22 (by decide) ?_
        refine lv_goto (tgt := 27) hx hb dX6_figures_23 (by decide) ?_
        have hJ := J_1; (repeat rw [if_neg h_7] at hJ); (repeat rw [if_neg h_8] at hJ)
        (repeat rw [if_neg h_7] at f_s); (repeat rw [if_neg h_8] at f_s)
        first | exact hJ _ _ ⟨f_s, hS, hZ⟩ ls (lv_sub hl [0] rfl) | ((repeat rw [if_neg h_7] at hl); (repeat rw [if_neg h_8] at hl); (repeat rw [if_neg h_7]); (repeat rw [if_neg h_8]); (repeat rw [if_neg h_7] at f_s); (repeat rw [if_neg h_8] at f_s); exact hJ _ _ ⟨f_s, hS, hZ⟩ ls (lv_sub hl [0] rfl))
theorem c2_X6_figures (l : Launch) (G : GG) (M : Nat → Nat) (x : MT) (an en sp : Nat) (wr : Bool) (op : Nat) (sv : Nat → Int32)  (hN : mN M) (hen : en ≤ 120) (hsp : sp ≤ en) (r9 : Int32) (sp9 : Nat) (wr9 : Bool) (hy9 : r_figures an en sp wr sv = (r9, sp9, wr9)) : Met l yX6_figures wsX6_figures { frames := 1, cells := 0, slots := 0, locals := 22 } (roP G [.ref (M 0)] (fun H => PAt G M x (nI an) (nI en) (nI sp) wr (nI op) sv H)) (wrQ (some (.int r9)) (fun H => PAt G M x (nI an) (nI en) (nI sp9) wr9 (nI op) sv H) (m01 M)) 0 0 (m01 M) := by
  have h9 := c_X6_figures l G M x an en sp wr op sv hN hen hsp
  rw [hy9] at h9
  exact h9
theorem E_figGo {an en : Nat} {sv : Nat → Int32} (hen : en ≤ 120) : ∀ (n k : Nat) (v v2 : Int32) (sp sp2 : Nat) (wr wr2 : Bool), r_figGo an en sv n k v sp wr = (v2, sp2, wr2) → sp ≤ en → sp ≤ sp2 ∧ sp2 ≤ en ∧ wr2 = wr ∧ (wr = true → sp2 = sp ∧ v2 = v)
  | 0, k, v, v2, sp, sp2, wr, wr2, h, hs => by
    cases h
    exact ⟨Nat.le_refl _, hs, rfl, fun _ => ⟨rfl, rfl⟩⟩
  | n + 1, k, v, v2, sp, sp2, wr, wr2, h, hs => by
    rw [r_figGo_s] at h
    cases wr with
    | true => simp at h; obtain ⟨rfl, rfl, rfl⟩ := h; exact ⟨Nat.le_refl _, hs, rfl, fun _ => ⟨rfl, rfl⟩⟩
    | false =>
      have st : ∀ v9, sp < en → r_figGo an en sv n (k + 1) v9 (sp + 1) false = (v2, sp2, wr2) → sp ≤ sp2 ∧ sp2 ≤ en ∧ wr2 = false ∧ (false = true → sp2 = sp ∧ v2 = v) := fun v9 hl q => by
        have := E_figGo hen n (k + 1) v9 v2 (sp + 1) sp2 false wr2 q (by omega)
        exact ⟨by omega, this.2.1, this.2.2.1, fun z => by cases z⟩
      have no : (v, sp, false) = (v2, sp2, wr2) → sp ≤ sp2 ∧ sp2 ≤ en ∧ wr2 = false ∧ (false = true → sp2 = sp ∧ v2 = v) := fun q => by
        cases q
        exact ⟨Nat.le_refl _, hs, rfl, fun z => by cases z⟩
      rw [if_neg (by decide)] at h
      repeat' split at h
      all_goals first
        | exact no h
        | exact st _ (here_in ‹_› (by decide) hen hs) h
theorem E_figures {an en : Nat} {sp sp2 : Nat} {v : Int32} {wr wr2 : Bool} {sv : Nat → Int32} (h : r_figures an en sp wr sv = (v, sp2, wr2)) (hen : en ≤ 120) (hsp : sp ≤ en) : sp ≤ sp2 ∧ sp2 ≤ en ∧ (wr = true → wr2 = true ∧ sp2 = sp ∧ v = 0) := by
  unfold r_figures at h
  have h1 := E_figGo hen _ _ _ _ _ _ _ _ h hsp
  refine ⟨h1.1, h1.2.1, fun q => ?_⟩
  subst q
  have h2 := h1.2.2.2 (by simp)
  exact ⟨by rw [h1.2.2.1]; simp, h2.1, h2.2⟩
theorem i_X6_figure_X6 : ∀ w ∈ wsX60, w ∈ wsX6_figure := fun _ h => List.mem_cons_of_mem _ (List.mem_append_right _ h)
theorem k_X6_figure_fieldLink_57 : Cond.fieldLink RX6 57 "SameWaterModel" "isWrong" "Z" ∈ wsX6_figure := by decide +kernel
theorem k_X6_figure_fieldLink_51 : Cond.fieldLink RX6 51 "SameWaterModel" "spot" "I" ∈ wsX6_figure := by decide +kernel
def r_figure (an en : Nat) (high : Int32) (sp : Nat) (wr : Bool) (sv : Nat → Int32) : Int32 × Nat × Bool := (if (if wr = true then true else if (r_in (r_here en sp sv) 48 (48 + high)) = true then false else true) = true then 0 else (r_here en sp sv) - 48, (if (if (if wr = true then true else if (r_in (r_here en sp sv) 48 (48 + high)) = true then false else true) = true then false else true) = true then sp + 1 else sp), (if wr = true then true else if (r_in (r_here en sp sv) 48 (48 + high)) = true then false else true))
set_option maxHeartbeats 600000 in
set_option maxRecDepth 100000 in
theorem c_X6_figure (l : Launch) (G : GG) (M : Nat → Nat) (x : MT) (an en sp : Nat) (wr : Bool) (op : Nat) (sv : Nat → Int32) (high : Int32)  (hN : mN M) (hen : en ≤ 120) (hsp : sp ≤ en) : Met l yX6_figure wsX6_figure { frames := 1, cells := 0, slots := 0, locals := 22 } (roP G [.ref (M 0), .int high] (fun H => PAt G M x (nI an) (nI en) (nI sp) wr (nI op) sv H)) (wrQ (some (.int ((r_figure an en high sp wr sv).1))) (fun H => PAt G M x (nI an) (nI en) (nI ((r_figure an en high sp wr sv).2.1)) ((r_figure an en high sp wr sv).2.2) (nI op) sv H) (m01 M)) 0 0 (m01 M) := by
  refine Met.ofW (cc := cX6_figure) (maxL := 3) (ret := (some .int)) (by decide) rfl ?_
  intro p e s m args below meth c s₁ Bd hml hv
  obtain ⟨rfl, hK, hB⟩ := hv
  have hx := Bd.exec
  have hb := Bd.bytes
  have hr := Bd.returns
  have hts := atoms_spec (ws := wsX6_figure) Bd.pre
  have hown : s.vm.findClass RX6 = some m.cls := findClass_of_methodNamed Bd.named
  have hlocks := Bd.notSynchronized
  have hC : CallFix p m c cX6_figure 3 s _ wsX6_figure RX6 := ⟨hx, hb, hml, hown, hts⟩
  have hl := lv_entry ([.ref (M 0), .int high]) (n := 3) (Nat.le_of_ble_eq_true rfl)
  rw [lg_entry_eq]
  generalize (lg_sl ([.ref (M 0), .int high]) ++ List.replicate (3 - (lg_sl ([.ref (M 0), .int high])).length) Slot.unset).toArray = ls at hl ⊢
  have hl : lv_has ls 3 [(0, .ref (M 0)), (1, .int high)] := hl
  have hS : wS (m01 M) s.heap s.heap [] := wS.rf
  have f_s := hB
  have hZ := trivial
  refine lv_aload_n hx hb dX6_figure_0 rfl (lv_at hl 0 rfl) ?_
  refine lv_aload_n hx hb dX6_figure_1 rfl (lv_at hl 0 rfl) ?_
  refine r_get (C := RX6) (T := TX6) (N := 18) hx hb hts i_X6_figure_X6 hown hK f_s.1 rfl 7 (by decide) k_X6_figure_fieldLink_57 rfl rfl dX6_figure_2 ?_
  refine join_wr (nL := 3) 29 [(0, .ref (M 0)), (1, .int high)] [.int (b2i (if wr = true then true else if (r_in (r_here en sp sv) 48 (48 + high)) = true then false else true)), .ref (M 0)] (fun H locs => (PAt G M x (nI an) (nI en) (nI sp) wr (nI op) sv H) ∧ wS (m01 M) s.heap H locs ∧ True) (fun H locs hI ls hl => ?_) (fun J_1 => ?_)
  · obtain ⟨f_s, hS, hZ⟩ := hI
    refine w_put (C := RX6) (T := TX6) (N := 18) hx hb hts i_X6_figure_X6 tyX6 tyX6_ok nmX6 hown hK f_s.1 hS (.inl rfl) rfl 7 (by decide) k_X6_figure_fieldLink_57 rfl rfl (b2i_nar _) (b2i_fit _) (Nat.le_of_ble_eq_true rfl) dX6_figure_29 (fun H locs hn hq hS => ?_)
    have f_s : PAt G M x (nI an) (nI en) (nI sp) (if wr = true then true else if (r_in (r_here en sp sv) 48 (48 + high)) = true then false else true) (nI op) sv H := f_s.rest hN hn hq
    refine lv_aload_n hx hb dX6_figure_32 rfl (lv_at hl 0 rfl) ?_
    refine r_get (C := RX6) (T := TX6) (N := 18) hx hb hts i_X6_figure_X6 hown hK f_s.1 rfl 7 (by decide) k_X6_figure_fieldLink_57 rfl rfl dX6_figure_33 ?_
    refine join_wr (nL := 3) 50 [(0, .ref (M 0)), (1, .int high)] [.int (if (if wr = true then true else if (r_in (r_here en sp sv) 48 (48 + high)) = true then false else true) = true then 0 else (r_here en sp sv) - 48)] (fun H locs => (PAt G M x (nI an) (nI en) (nI sp) (if wr = true then true else if (r_in (r_here en sp sv) 48 (48 + high)) = true then false else true) (nI op) sv H) ∧ wS (m01 M) s.heap H locs ∧ True) (fun H locs hI ls hl => ?_) (fun J_2 => ?_)
    · obtain ⟨f_s, hS, hZ⟩ := hI
      refine lv_istore_n (lv' := [(2, .int (if (if wr = true then true else if (r_in (r_here en sp sv) 48 (48 + high)) = true then false else true) = true then 0 else (r_here en sp sv) - 48)), (0, .ref (M 0)), (1, .int high)]) hx hb dX6_figure_50 rfl hl (by decide) rfl (fun ls hl => ?_)
      refine lv_aload_n hx hb dX6_figure_51 rfl (lv_at hl 1 rfl) ?_
      refine lv_dup hx hb dX6_figure_52 rfl ?_
      refine r_get (C := RX6) (T := TX6) (N := 18) hx hb hts i_X6_figure_X6 hown hK f_s.1 rfl 5 (by decide) k_X6_figure_fieldLink_51 rfl rfl dX6_figure_53 ?_
      refine lv_aload_n hx hb dX6_figure_56 rfl (lv_at hl 1 rfl) ?_
      refine r_get (C := RX6) (T := TX6) (N := 18) hx hb hts i_X6_figure_X6 hown hK f_s.1 rfl 7 (by decide) k_X6_figure_fieldLink_57 rfl rfl dX6_figure_57 ?_
      refine join_wr (nL := 3) 68 [(2, .int (if (if wr = true then true else if (r_in (r_here en sp sv) 48 (48 + high)) = true then false else true) = true then 0 else (r_here en sp sv) - 48)), (0, .ref (M 0)), (1, .int high)] [.int (b2i (if (if wr = true then true else if (r_in (r_here en sp sv) 48 (48 + high)) = true then false else true) = true then false else true)), .int (nI sp), .ref (M 0)] (fun H locs => (PAt G M x (nI an) (nI en) (nI sp) (if wr = true then true else if (r_in (r_here en sp sv) 48 (48 + high)) = true then false else true) (nI op) sv H) ∧ wS (m01 M) s.heap H locs ∧ True) (fun H locs hI ls hl => ?_) (fun J_3 => ?_)
      · obtain ⟨f_s, hS, hZ⟩ := hI
        refine lv_iadd hx hb dX6_figure_68 ?_
        refine w_put (C := RX6) (T := TX6) (N := 18) hx hb hts i_X6_figure_X6 tyX6 tyX6_ok nmX6 hown hK f_s.1 hS (.inl rfl) rfl 5 (by decide) k_X6_figure_fieldLink_51 rfl rfl rfl rfl (Nat.le_of_ble_eq_true rfl) dX6_figure_69 (fun H locs hn hq hS => ?_)
        rw [sp_up (if (if wr = true then true else if (r_in (r_here en sp sv) 48 (48 + high)) = true then false else true) = true then false else true) sp] at hn
        have f_s : PAt G M x (nI an) (nI en) (nI (if (if (if wr = true then true else if (r_in (r_here en sp sv) 48 (48 + high)) = true then false else true) = true then false else true) = true then sp + 1 else sp)) (if wr = true then true else if (r_in (r_here en sp sv) 48 (48 + high)) = true then false else true) (nI op) sv H := f_s.rest hN hn hq
        refine lv_iload_n hx hb dX6_figure_72 rfl (lv_at hl 0 rfl) ?_
        have hE9 : r_figure an en high sp wr sv = (if (if wr = true then true else if (r_in (r_here en sp sv) 48 (48 + high)) = true then false else true) = true then 0 else (r_here en sp sv) - 48, (if (if (if wr = true then true else if (r_in (r_here en sp sv) 48 (48 + high)) = true then false else true) = true then false else true) = true then sp + 1 else sp), (if wr = true then true else if (r_in (r_here en sp sv) 48 (48 + high)) = true then false else true)) := (by (try unfold r_figure); first | done | rfl)
        exact wr_iret hx hb hr hlocks dX6_figure_73 hS (by rw [hE9]; exact f_s) (by rw [hE9]; first | done | rfl)
      · refine bz_eq (tgt := 67) hx hb dX6_figure_60 (by decide) (fun h_4 => ?_) (fun h_4 => ?_)
        · have h_4 : ¬ ((if wr = true then true else if (r_in (r_here en sp sv) 48 (48 + high)) = true then false else true) = true) := h_4
          refine lv_iconst (v := 1) hx hb dX6_figure_67 (by decide) ?_
          have hJ := J_3; (repeat rw [if_neg h_4] at hJ)
          (repeat rw [if_neg h_4] at f_s)
          first | exact hJ _ _ ⟨f_s, hS, hZ⟩ ls (lv_sub hl [0, 1, 2] rfl) | ((repeat rw [if_neg h_4] at hl); (repeat rw [if_neg h_4]); (repeat rw [if_neg h_4] at f_s); exact hJ _ _ ⟨f_s, hS, hZ⟩ ls (lv_sub hl [0, 1, 2] rfl))
        · have h_4 : (if wr = true then true else if (r_in (r_here en sp sv) 48 (48 + high)) = true then false else true) = true := h_4
          refine lv_iconst (v := 0) hx hb dX6_figure_63 (by decide) ?_
          refine lv_goto (tgt := 68) hx hb dX6_figure_64 (by decide) ?_
          have hJ := J_3; (repeat rw [if_pos h_4] at hJ)
          (repeat rw [if_pos h_4] at f_s)
          first | exact hJ _ _ ⟨f_s, hS, hZ⟩ ls (lv_sub hl [0, 1, 2] rfl) | ((repeat rw [if_pos h_4] at hl); (repeat rw [if_pos h_4]); (repeat rw [if_pos h_4] at f_s); exact hJ _ _ ⟨f_s, hS, hZ⟩ ls (lv_sub hl [0, 1, 2] rfl))
    · refine bz_eq (tgt := 43) hx hb dX6_figure_36 (by decide) (fun h_5 => ?_) (fun h_5 => ?_)
      · have h_5 : ¬ ((if wr = true then true else if (r_in (r_here en sp sv) 48 (48 + high)) = true then false else true) = true) := h_5
        refine lv_aload_n hx hb dX6_figure_43 rfl (lv_at hl 0 rfl) ?_
        refine ro_call (va_runV (As := []) (rest := []) hC (c_X6_here l G M x an en sp (if wr = true then true else if (r_in (r_here en sp sv) 48 (48 + high)) = true then false else true) op sv hen (by omega)) (cwV 0 hts gX6_figure_X6_here rfl rfl rfl kd_X6_here ⟨Nat.le_of_ble_eq_true rfl, Nat.le_of_ble_eq_true rfl⟩) (ro_preV hK f_s.1 rfl f_s) rfl rfl hl.1 rfl (lv_room (Nat.le_of_ble_eq_true rfl)) dX6_figure_44 ⟨Nat.zero_le _, Nat.zero_le _⟩) ?_
        refine lv_bipush (v := 48) hx hb dX6_figure_47 (by decide +kernel) ?_
        refine lv_isub hx hb dX6_figure_49 ?_
        have hJ := J_2; (repeat rw [if_neg h_5] at hJ)
        (repeat rw [if_neg h_5] at f_s)
        first | exact hJ _ _ ⟨f_s, hS, hZ⟩ ls (lv_sub hl [0, 1] rfl) | ((repeat rw [if_neg h_5] at hl); (repeat rw [if_neg h_5]); (repeat rw [if_neg h_5] at f_s); exact hJ _ _ ⟨f_s, hS, hZ⟩ ls (lv_sub hl [0, 1] rfl))
      · have h_5 : (if wr = true then true else if (r_in (r_here en sp sv) 48 (48 + high)) = true then false else true) = true := h_5
        refine lv_iconst (v := 0) hx hb dX6_figure_39 (by decide) ?_
        refine lv_goto (tgt := 50) hx hb dX6_figure_40 (by decide) ?_
        have hJ := J_2; (repeat rw [if_pos h_5] at hJ)
        (repeat rw [if_pos h_5] at f_s)
        first | exact hJ _ _ ⟨f_s, hS, hZ⟩ ls (lv_sub hl [0, 1] rfl) | ((repeat rw [if_pos h_5] at hl); (repeat rw [if_pos h_5]); (repeat rw [if_pos h_5] at f_s); exact hJ _ _ ⟨f_s, hS, hZ⟩ ls (lv_sub hl [0, 1] rfl))
  · refine bz_ne (tgt := 24) hx hb dX6_figure_5 (by decide) (fun h_6 => ?_) (fun h_6 => ?_)
    · have h_6 : wr = true := h_6
      refine lv_iconst (v := 1) hx hb dX6_figure_24 (by decide) ?_
      refine lv_goto (tgt := 29) hx hb dX6_figure_25 (by decide) ?_
      have hJ := J_1; (repeat rw [if_pos h_6] at hJ)
      (repeat rw [if_pos h_6] at f_s)
      first | exact hJ _ _ ⟨f_s, hS, hZ⟩ ls (lv_sub hl [0, 1] rfl) | ((repeat rw [if_pos h_6] at hl); (repeat rw [if_pos h_6]); (repeat rw [if_pos h_6] at f_s); exact hJ _ _ ⟨f_s, hS, hZ⟩ ls (lv_sub hl [0, 1] rfl))
    · have h_6 : ¬ (wr = true) := h_6
      refine lv_aload_n hx hb dX6_figure_8 rfl (lv_at hl 0 rfl) ?_
      refine ro_call (va_runV (As := []) (rest := [.ref (M 0)]) hC (c_X6_here l G M x an en sp wr op sv hen (by omega)) (cwV 0 hts gX6_figure_X6_here rfl rfl rfl kd_X6_here ⟨Nat.le_of_ble_eq_true rfl, Nat.le_of_ble_eq_true rfl⟩) (ro_preV hK f_s.1 rfl f_s) rfl rfl hl.1 rfl (lv_room (Nat.le_of_ble_eq_true rfl)) dX6_figure_9 ⟨Nat.zero_le _, Nat.zero_le _⟩) ?_
      refine lv_bipush (v := 48) hx hb dX6_figure_12 (by decide +kernel) ?_
      refine lv_bipush (v := 48) hx hb dX6_figure_14 (by decide +kernel) ?_
      refine lv_iload_n hx hb dX6_figure_16 rfl (lv_at hl 1 rfl) ?_
      refine lv_iadd hx hb dX6_figure_17 ?_
      refine ro_call (va_runS (As := [.int (r_here en sp sv), .int 48, .int (48 + high)]) (rest := [.ref (M 0)]) hC (c_X6_in l G (r_here en sp sv) 48 (48 + high)) (va_cwS 3 hts gX6_figure_X6_in rfl rfl rfl kd_X6_in ⟨Nat.le_of_ble_eq_true rfl, Nat.le_of_ble_eq_true rfl⟩) (ro_preS hK trivial) rfl rfl hl.1 rfl (lv_room (Nat.le_of_ble_eq_true rfl)) dX6_figure_18 ⟨Nat.zero_le _, Nat.zero_le _⟩) ?_
      refine bz_ne (tgt := 28) hx hb dX6_figure_21 (by decide) (fun h_7 => ?_) (fun h_7 => ?_)
      · have h_7 : (r_in (r_here en sp sv) 48 (48 + high)) = true := h_7
        refine lv_iconst (v := 0) hx hb dX6_figure_28 (by decide) ?_
        have hJ := J_1; (repeat rw [if_neg h_6] at hJ); (repeat rw [if_pos h_7] at hJ)
        (repeat rw [if_neg h_6] at f_s); (repeat rw [if_pos h_7] at f_s)
        first | exact hJ _ _ ⟨f_s, hS, hZ⟩ ls (lv_sub hl [0, 1] rfl) | ((repeat rw [if_neg h_6] at hl); (repeat rw [if_pos h_7] at hl); (repeat rw [if_neg h_6]); (repeat rw [if_pos h_7]); (repeat rw [if_neg h_6] at f_s); (repeat rw [if_pos h_7] at f_s); exact hJ _ _ ⟨f_s, hS, hZ⟩ ls (lv_sub hl [0, 1] rfl))
      · have h_7 : ¬ ((r_in (r_here en sp sv) 48 (48 + high)) = true) := h_7
        refine lv_iconst (v := 1) hx hb dX6_figure_24 (by decide) ?_
        refine lv_goto (tgt := 29) hx hb dX6_figure_25 (by decide) ?_
        have hJ := J_1; (repeat rw [if_neg h_6] at hJ); (repeat rw [if_neg h_7] at hJ)
        (repeat rw [if_neg h_6] at f_s); (repeat rw [if_neg h_7] at f_s)
        first | exact hJ _ _ ⟨f_s, hS, hZ⟩ ls (lv_sub hl [0, 1] rfl) | ((repeat rw [if_neg h_6] at hl); (repeat rw [if_neg h_7] at hl); (repeat rw [if_neg h_6]); (repeat rw [if_neg h_7]); (repeat rw [if_neg h_6] at f_s); (repeat rw [if_neg h_7] at f_s); exact hJ _ _ ⟨f_s, hS, hZ⟩ ls (lv_sub hl [0, 1] rfl))
theorem c2_X6_figure (l : Launch) (G : GG) (M : Nat → Nat) (x : MT) (an en sp : Nat) (wr : Bool) (op : Nat) (sv : Nat → Int32) (high : Int32)  (hN : mN M) (hen : en ≤ 120) (hsp : sp ≤ en) (r9 : Int32) (sp9 : Nat) (wr9 : Bool) (hy9 : r_figure an en high sp wr sv = (r9, sp9, wr9)) : Met l yX6_figure wsX6_figure { frames := 1, cells := 0, slots := 0, locals := 22 } (roP G [.ref (M 0), .int high] (fun H => PAt G M x (nI an) (nI en) (nI sp) wr (nI op) sv H)) (wrQ (some (.int r9)) (fun H => PAt G M x (nI an) (nI en) (nI sp9) wr9 (nI op) sv H) (m01 M)) 0 0 (m01 M) := by
  have h9 := c_X6_figure l G M x an en sp wr op sv high hN hen hsp
  rw [hy9] at h9
  exact h9
theorem E_figure {an en : Nat} {high : Nat} {sp sp2 : Nat} {v : Int32} {wr wr2 : Bool} {sv : Nat → Int32} (h : r_figure an en (nI high) sp wr sv = (v, sp2, wr2)) (hh : high ≤ 9) (hen : en ≤ 120) (hsp : sp ≤ en) : sp ≤ sp2 ∧ sp2 ≤ en ∧ (wr = true → wr2 = true ∧ sp2 = sp ∧ v = 0) ∧ ib 0 high v ∧ (wr2 = false → sp2 = sp + 1) := by
  unfold r_figure at h
  have h0 : ib 0 high (0 : Int32) := ib_lit (n := 0) (by decide) (by decide) (by omega)
  cases wr with
  | true =>
    simp at h
    obtain ⟨rfl, rfl, rfl⟩ := h
    exact ⟨Nat.le_refl _, hsp, fun _ => ⟨rfl, rfl, rfl⟩, h0, fun e => (by cases e)⟩
  | false =>
    by_cases q : r_in (r_here en sp sv) 48 (48 + nI high) = true
    · have hl := here_in q (by decide) hen hsp
      have e48 : (48 : Int32) + nI high = nI (48 + high) := nI_add 48 high
      have e1 : (nI (48 + high)).toInt = ((48 + high : Nat) : Int) := Int32.toInt_ofNat_of_lt (by omega)
      have hi : ib 48 ((48 + high : Nat) : Int) (r_here en sp sv) := in_ib q rfl (by rw [e48]; exact e1)
      have hv := ib_sub hi (ib_nI (n := 48) (by decide)) (by decide) (by omega)
      simp [q] at h
      obtain ⟨rfl, rfl, rfl⟩ := h
      exact ⟨by omega, by omega, fun e => (by cases e), ib.weak hv (by omega) (by omega), fun _ => rfl⟩
    · simp [q] at h
      obtain ⟨rfl, rfl, rfl⟩ := h
      exact ⟨Nat.le_refl _, hsp, fun e => (by cases e), h0, fun e => (by cases e)⟩
theorem i_X6_among_X6 : ∀ w ∈ wsX60, w ∈ wsX6_among := fun _ h => List.mem_cons_of_mem _ (List.mem_append_right _ h)
theorem k_X6_among_fieldLink_51 : Cond.fieldLink RX6 51 "SameWaterModel" "spot" "I" ∈ wsX6_among := by decide +kernel
def r_amongGo (an en i : Nat) (sv : Nat → Int32) : Nat → Nat → Nat → Int32 × Nat
  | 0, _, sp_k => ((-1), sp_k)
  | n + 1, k, sp_k => if (r_here en sp_k sv) = (nI ((txB i).getD k 0)) then (nI k, sp_k + 1) else r_amongGo an en i sv n (k + 1) sp_k
theorem r_amongGo_0 (an en i : Nat) (sv : Nat → Int32) (k : Nat) (sp_k : Nat) : r_amongGo an en i sv 0 k sp_k = (((-1), sp_k)) := rfl
theorem r_amongGo_s (an en i : Nat) (sv : Nat → Int32) (n k : Nat) (sp_k : Nat) : r_amongGo an en i sv (n + 1) k sp_k = (if (r_here en sp_k sv) = (nI ((txB i).getD k 0)) then (nI k, sp_k + 1) else r_amongGo an en i sv n (k + 1) sp_k) := rfl
def r_among (an en : Nat) (i : Nat) (sp : Nat) (sv : Nat → Int32) : Int32 × Nat := r_amongGo an en i sv ((txB i).length) 0 sp
set_option maxHeartbeats 600000 in
set_option maxRecDepth 100000 in
theorem c_X6_among (l : Launch) (G : GG) (Z : AM) (M : Nat → Nat) (x : MT) (an en sp : Nat) (wr : Bool) (op : Nat) (sv : Nat → Int32) (i : Nat)  (hN : mN M) (hAZ : ∀ q : Nat, m01 M q → Z.1 q) (hen : en ≤ 120) (hsp : sp ≤ en) (hi : i < 15) : Met l yX6_among wsX6_among { frames := 4, cells := 0, slots := 0, locals := 85 } (aP G Z [.ref (M 0), .ref (zK Z i)] (fun H => PAt G M x (nI an) (nI en) (nI sp) wr (nI op) sv H)) (wrQ (some (.int ((r_among an en i sp sv).1))) (fun H => PAt G M x (nI an) (nI en) (nI ((r_among an en i sp sv).2)) wr (nI op) sv H) (m01 M)) 0 0 (m01 M) := by
  refine Met.ofW (cc := cX6_among) (maxL := 3) (ret := (some .int)) (by decide) rfl ?_
  intro p e s m args below meth c s₁ Bd hml hv
  obtain ⟨rfl, hK, hZ, hB⟩ := hv
  have hx := Bd.exec
  have hb := Bd.bytes
  have hr := Bd.returns
  have hts := atoms_spec (ws := wsX6_among) Bd.pre
  have hown : s.vm.findClass RX6 = some m.cls := findClass_of_methodNamed Bd.named
  have hlocks := Bd.notSynchronized
  have hC : CallFix p m c cX6_among 3 s _ wsX6_among RX6 := ⟨hx, hb, hml, hown, hts⟩
  have hl := lv_entry ([.ref (M 0), .ref (zK Z i)]) (n := 3) (Nat.le_of_ble_eq_true rfl)
  rw [lg_entry_eq]
  generalize (lg_sl ([.ref (M 0), .ref (zK Z i)]) ++ List.replicate (3 - (lg_sl ([.ref (M 0), .ref (zK Z i)])).length) Slot.unset).toArray = ls at hl ⊢
  have hl : lv_has ls 3 [(0, .ref (M 0)), (1, .ref (zK Z i))] := hl
  have hS : wS (m01 M) s.heap s.heap [] := wS.rf
  have f_s := hB
  refine lv_iconst (v := 0) hx hb dX6_among_0 (by decide) ?_
  refine lv_istore_n (lv' := [(2, .int 0), (0, .ref (M 0)), (1, .ref (zK Z i))]) hx hb dX6_among_1 rfl hl (by decide) rfl (fun ls hl => ?_)
  refine loop_wr (nL := 3) (α := Nat × Nat) (fun a9 => [(0, .ref (M 0)), (1, .ref (zK Z i)), (2, .int (nI (a9.1)))]) (fun a9 H locs => ((a9.1 ≤ (txB i).length ∧ r_amongGo an en i sv (((txB i).length) - a9.1) a9.1 a9.2 = r_amongGo an en i sv ((txB i).length) 0 sp) ∧ ((a9.2) ≤ en)) ∧ (PAt G M x (nI an) (nI en) (nI (a9.2)) wr (nI op) sv H) ∧ wS (m01 M) s.heap H locs ∧ amK Z s H) (fun a9 => (txB i).length - a9.1) (0, sp) ⟨⟨⟨(by first | exact Nat.zero_le _ | decide | omega), rfl⟩, hsp⟩, f_s, hS, hZ⟩ (lv_sub hl [1, 2, 0] rfl) (fun a9 H locs hI9 ih_k ls hl => ?_)
  obtain ⟨k, sp_k⟩ := a9
  obtain ⟨⟨hI9, hX9⟩, f_s, hS, hZ⟩ := hI9
  have hX9 : sp_k ≤ en := hX9
  have f_s : PAt G M x (nI an) (nI en) (nI sp_k) wr (nI op) sv H := f_s
  obtain ⟨hk_k, hV⟩ : k ≤ (txB i).length ∧ r_amongGo an en i sv (((txB i).length) - k) k sp_k = r_amongGo an en i sv ((txB i).length) 0 sp := hI9
  have hl : lv_has ls 3 [(0, .ref (M 0)), (1, .ref (zK Z i)), (2, .int (nI k))] := hl
  refine lv_iload_n hx hb dX6_among_2 rfl (lv_at hl 2 rfl) ?_
  refine lv_aload_n hx hb dX6_among_3 rfl (lv_at hl 1 rfl) ?_
  refine ro_call (va_runV (As := []) (rest := [.int (nI k)]) hC (c_J0_length_8abf5 l G Z i hi) (cwV 0 hts gX6_among_J0_length_8abf5 rfl rfl rfl kd_J0_length_8abf5 ⟨Nat.le_of_ble_eq_true rfl, Nat.le_of_ble_eq_true rfl⟩) (a_preT hK hZ hi trivial) rfl rfl hl.1 rfl (lv_room (Nat.le_of_ble_eq_true rfl)) dX6_among_4 ⟨Nat.zero_le _, Nat.zero_le _⟩) ?_
  refine lv_icmp_ge (tgt := 40) hx hb dX6_among_7 (by decide) (fun h_1 => ?_) (fun h_1 => ?_)
  · have hN_k : k = (txB i).length := ge_ex (N := (txB i).length) rfl h_1 hk_k (by have := txB_len i; omega)
    subst hN_k
    rw [Nat.sub_self] at hV
    refine lv_iconst (v := (-1)) hx hb dX6_among_40 (by decide) ?_
    have hE9 : r_among an en i sp sv = ((-1), sp_k) := (by (try unfold r_among); rw [← hV, r_amongGo_0]; first | done | rfl)
    exact wr_iret hx hb hr hlocks dX6_among_41 hS (by rw [hE9]; exact f_s) (by rw [hE9]; first | done | rfl)
  · have hlt_k : k < (txB i).length := ge_in (N := (txB i).length) rfl h_1 hk_k (by have := txB_len i; omega)
    obtain ⟨n9, hn9⟩ : ∃ n9, ((txB i).length) - k = n9 + 1 := ⟨((txB i).length) - k - 1, by omega⟩
    rw [hn9] at hV
    refine lv_aload_n hx hb dX6_among_10 rfl (lv_at hl 0 rfl) ?_
    refine ro_call (va_runV (As := []) (rest := []) hC (c_X6_here l G M x an en sp_k wr op sv hen (by omega)) (cwV 0 hts gX6_among_X6_here rfl rfl rfl kd_X6_here ⟨Nat.le_of_ble_eq_true rfl, Nat.le_of_ble_eq_true rfl⟩) (ro_preV hK f_s.1 rfl f_s) rfl rfl hl.1 rfl (lv_room (Nat.le_of_ble_eq_true rfl)) dX6_among_11 ⟨Nat.zero_le _, Nat.zero_le _⟩) ?_
    refine lv_aload_n hx hb dX6_among_14 rfl (lv_at hl 1 rfl) ?_
    refine lv_iload_n hx hb dX6_among_15 rfl (lv_at hl 2 rfl) ?_
    refine ro_call (va_runV (As := [.int (nI k)]) (rest := [.int (r_here en sp_k sv)]) hC (c_J0_charAt_5068e l G Z i k hi hlt_k) (cwV 1 hts gX6_among_J0_charAt_5068e rfl rfl rfl kd_J0_charAt_5068e ⟨Nat.le_of_ble_eq_true rfl, Nat.le_of_ble_eq_true rfl⟩) (a_preT hK hZ hi trivial) rfl rfl hl.1 rfl (lv_room (Nat.le_of_ble_eq_true rfl)) dX6_among_16 ⟨Nat.zero_le _, Nat.zero_le _⟩) ?_
    refine lv_icmp_ne (tgt := 34) hx hb dX6_among_19 (by decide) (fun h_2 => ?_) (fun h_2 => ?_)
    · have h_2 : ¬ ((r_here en sp_k sv) = (nI ((txB i).getD k 0))) := h_2
      refine lv_iinc (v := (nI k) + 1) (lv' := [(2, .int ((nI k) + 1)), (0, .ref (M 0)), (1, .ref (zK Z i))]) hx hb dX6_among_34 hl (k := 2) rfl rfl (by decide) rfl (fun ls hl => ?_)
      refine lv_goto (tgt := 2) hx hb dX6_among_37 (by decide) ?_
      have hE : r_amongGo an en i sv n9 (k + 1) sp_k = r_amongGo an en i sv ((txB i).length) 0 sp := (by rw [← hV, r_amongGo_s]; (repeat rw [if_neg h_2]); first | done | rfl)
      refine ih_k ((k + 1, sp_k)) _ _ ⟨⟨⟨(show k + 1 ≤ (txB i).length by omega), (by show r_amongGo an en i sv (((txB i).length) - (k + 1)) (k + 1) sp_k = _; rw [show ((txB i).length) - (k + 1) = n9 by omega]; exact hE)⟩, hX9⟩, f_s, hS, hZ⟩ (show ((txB i).length) - (k + 1) < ((txB i).length) - k by omega) ls ?_
      show lv_has ls 3 [(0, .ref (M 0)), (1, .ref (zK Z i)), (2, .int (nI (k + 1)))]
      rw [nI_succ]
      exact lv_sub hl [1, 2, 0] rfl
    · have h_2 : (r_here en sp_k sv) = (nI ((txB i).getD k 0)) := h_2
      refine lv_aload_n hx hb dX6_among_22 rfl (lv_at hl 0 rfl) ?_
      refine lv_dup hx hb dX6_among_23 rfl ?_
      refine r_get (C := RX6) (T := TX6) (N := 18) hx hb hts i_X6_among_X6 hown hK f_s.1 rfl 5 (by decide) k_X6_among_fieldLink_51 rfl rfl dX6_among_24 ?_
      refine lv_iconst (v := 1) hx hb dX6_among_27 (by decide) ?_
      refine lv_iadd hx hb dX6_among_28 ?_
      refine w_put (C := RX6) (T := TX6) (N := 18) hx hb hts i_X6_among_X6 tyX6 tyX6_ok nmX6 hown hK f_s.1 hS (.inl rfl) rfl 5 (by decide) k_X6_among_fieldLink_51 rfl rfl rfl rfl (Nat.le_of_ble_eq_true rfl) dX6_among_29 (fun H locs hn hq hS => ?_)
      have hZ := hZ.put (hAZ _ (.inl rfl)) hq
      rw [← nI_succ] at hn
      have f_s : PAt G M x (nI an) (nI en) (nI (sp_k + 1)) wr (nI op) sv H := f_s.rest hN hn hq
      refine lv_iload_n hx hb dX6_among_32 rfl (lv_at hl 2 rfl) ?_
      have hE9 : r_among an en i sp sv = (nI k, sp_k + 1) := (by (try unfold r_among); rw [← hV, r_amongGo_s]; (repeat rw [if_neg h_1]); (repeat rw [if_pos h_2]); first | done | rfl)
      exact wr_iret hx hb hr hlocks dX6_among_33 hS (by rw [hE9]; exact f_s) (by rw [hE9]; first | done | rfl)
theorem c2_X6_among (l : Launch) (G : GG) (Z : AM) (M : Nat → Nat) (x : MT) (an en sp : Nat) (wr : Bool) (op : Nat) (sv : Nat → Int32) (i : Nat)  (hN : mN M) (hAZ : ∀ q : Nat, m01 M q → Z.1 q) (hen : en ≤ 120) (hsp : sp ≤ en) (hi : i < 15) (r9 : Int32) (sp9 : Nat) (hy9 : r_among an en i sp sv = (r9, sp9)) : Met l yX6_among wsX6_among { frames := 4, cells := 0, slots := 0, locals := 85 } (aP G Z [.ref (M 0), .ref (zK Z i)] (fun H => PAt G M x (nI an) (nI en) (nI sp) wr (nI op) sv H)) (wrQ (some (.int r9)) (fun H => PAt G M x (nI an) (nI en) (nI sp9) wr (nI op) sv H) (m01 M)) 0 0 (m01 M) := by
  have h9 := c_X6_among l G Z M x an en sp wr op sv i hN hAZ hen hsp hi
  rw [hy9] at h9
  exact h9
theorem E_amongGo {an en i : Nat} {sv : Nat → Int32} (hen : en ≤ 120) : ∀ (n k : Nat) (v : Int32) (sp sp2 : Nat), r_amongGo an en i sv n k sp = (v, sp2) → k + n ≤ 10 → sp ≤ en → sp ≤ sp2 ∧ sp2 ≤ en ∧ (v = -1 ∧ sp2 = sp ∨ sp2 = sp + 1 ∧ ib 0 9 v)
  | 0, k, v, sp, sp2, h, hn, hs => by
    cases h
    exact ⟨Nat.le_refl _, hs, .inl ⟨rfl, rfl⟩⟩
  | n + 1, k, v, sp, sp2, h, hn, hs => by
    rw [r_amongGo_s] at h
    by_cases q : r_here en sp sv = nI ((txB i).getD k 0)
    · have hl := here_eq q (by have := txB_get i k; omega) hen hs
      rw [if_pos q] at h
      cases h
      exact ⟨by omega, by omega, .inr ⟨rfl, ib_d (a := 0) (b := 9) (Nat.zero_le _) (by omega) (by decide)⟩⟩
    · rw [if_neg q] at h
      exact E_amongGo hen n (k + 1) v sp sp2 h (by omega) hs
theorem E_among {an en i : Nat} {sp sp2 : Nat} {v : Int32} {sv : Nat → Int32} (h : r_among an en i sp sv = (v, sp2)) (hen : en ≤ 120) (hsp : sp ≤ en) : sp ≤ sp2 ∧ sp2 ≤ en ∧ (v = -1 ∧ sp2 = sp ∨ sp2 = sp + 1 ∧ ib 0 9 v) := E_amongGo hen _ _ _ _ _ h (by have := txB_len i; omega) hsp
theorem i_X6_emits_X6 : ∀ w ∈ wsX60, w ∈ wsX6_emits := fun _ h => List.mem_cons_of_mem _ (List.mem_append_right _ h)
theorem k_X6_emits_fieldLink_57 : Cond.fieldLink RX6 57 "SameWaterModel" "isWrong" "Z" ∈ wsX6_emits := by decide +kernel
theorem k_X6_emits_fieldLink_9 : Cond.fieldLink RX6 9 "SameWaterModel" "s" "[I" ∈ wsX6_emits := by decide +kernel
theorem k_X6_emits_fieldLink_78 : Cond.fieldLink RX6 78 "SameWaterModel" "act" "I" ∈ wsX6_emits := by decide +kernel
def r_emits (an en : Nat) (v : Int32) (wr : Bool) (sv : Nat → Int32) : (Nat → Int32) := if wr = true then sv else upd (upd sv ((794 + (140 * (nI an))) + (sv (786 + (nI an)).toNatClampNeg)).toNatClampNeg v) (786 + (nI an)).toNatClampNeg (((upd sv ((794 + (140 * (nI an))) + (sv (786 + (nI an)).toNatClampNeg)).toNatClampNeg v) (786 + (nI an)).toNatClampNeg) + 1)
set_option maxHeartbeats 600000 in
set_option maxRecDepth 100000 in
theorem c_X6_emits (l : Launch) (G : GG) (M : Nat → Nat) (x : MT) (an en sp : Nat) (wr : Bool) (op : Nat) (sv : Nat → Int32) (v : Int32)  (hN : mN M) (hen : en ≤ 120) (hsp : sp ≤ en) (han : an < 8) (hg : gd an en 0 sp sv) : Met l yX6_emits wsX6_emits { frames := 0, cells := 0, slots := 0, locals := 0 } (roP G [.ref (M 0), .int v] (fun H => PAt G M x (nI an) (nI en) (nI sp) wr (nI op) sv H)) (wrQ none (fun H => PAt G M x (nI an) (nI en) (nI sp) wr (nI op) (r_emits an en v wr sv) H) (m01 M)) 0 0 (m01 M) := by
  refine Met.ofW (cc := cX6_emits) (maxL := 2) (ret := none) (by decide) rfl ?_
  intro p e s m args below meth c s₁ Bd hml hv
  obtain ⟨rfl, hK, hB⟩ := hv
  have hx := Bd.exec
  have hb := Bd.bytes
  have hr := Bd.returns
  have hts := atoms_spec (ws := wsX6_emits) Bd.pre
  have hown : s.vm.findClass RX6 = some m.cls := findClass_of_methodNamed Bd.named
  have hlocks := Bd.notSynchronized
  have hC : CallFix p m c cX6_emits 2 s _ wsX6_emits RX6 := ⟨hx, hb, hml, hown, hts⟩
  have hl := lv_entry ([.ref (M 0), .int v]) (n := 2) (Nat.le_of_ble_eq_true rfl)
  rw [lg_entry_eq]
  generalize (lg_sl ([.ref (M 0), .int v]) ++ List.replicate (2 - (lg_sl ([.ref (M 0), .int v])).length) Slot.unset).toArray = ls at hl ⊢
  have hl : lv_has ls 2 [(0, .ref (M 0)), (1, .int v)] := hl
  have hS : wS (m01 M) s.heap s.heap [] := wS.rf
  have f_s := hB
  have hZ := trivial
  refine lv_aload_n hx hb dX6_emits_0 rfl (lv_at hl 0 rfl) ?_
  refine r_get (C := RX6) (T := TX6) (N := 18) hx hb hts i_X6_emits_X6 hown hK f_s.1 rfl 7 (by decide) k_X6_emits_fieldLink_57 rfl rfl dX6_emits_1 ?_
  refine bz_ne (tgt := 56) hx hb dX6_emits_4 (by decide) (fun h_1 => ?_) (fun h_1 => ?_)
  · have h_1 : wr = true := h_1
    have hE9 : r_emits an en v wr sv = sv := (by (try unfold r_emits); (repeat rw [if_pos h_1]); first | done | rfl)
    exact wr_vret hx hb hr hlocks dX6_emits_56 hS (by rw [hE9]; exact f_s)
  · have h_1 : ¬ (wr = true) := h_1
    refine lv_aload_n hx hb dX6_emits_7 rfl (lv_at hl 0 rfl) ?_
    refine r_get (C := RX6) (T := TX6) (N := 18) hx hb hts i_X6_emits_X6 hown hK f_s.1 rfl 1 (by decide) k_X6_emits_fieldLink_9 rfl rfl dX6_emits_8 ?_
    refine lv_sipush (v := 794) hx hb dX6_emits_11 (by decide +kernel) ?_
    refine lv_sipush (v := 140) hx hb dX6_emits_14 (by decide +kernel) ?_
    refine lv_aload_n hx hb dX6_emits_17 rfl (lv_at hl 0 rfl) ?_
    refine r_get (C := RX6) (T := TX6) (N := 18) hx hb hts i_X6_emits_X6 hown hK f_s.1 rfl 4 (by decide) k_X6_emits_fieldLink_78 rfl rfl dX6_emits_18 ?_
    refine lv_imul hx hb dX6_emits_21 ?_
    refine lv_iadd hx hb dX6_emits_22 ?_
    refine lv_aload_n hx hb dX6_emits_23 rfl (lv_at hl 0 rfl) ?_
    refine r_get (C := RX6) (T := TX6) (N := 18) hx hb hts i_X6_emits_X6 hown hK f_s.1 rfl 1 (by decide) k_X6_emits_fieldLink_9 rfl rfl dX6_emits_24 ?_
    refine lv_sipush (v := 786) hx hb dX6_emits_27 (by decide +kernel) ?_
    refine lv_aload_n hx hb dX6_emits_30 rfl (lv_at hl 0 rfl) ?_
    refine r_get (C := RX6) (T := TX6) (N := 18) hx hb hts i_X6_emits_X6 hown hK f_s.1 rfl 4 (by decide) k_X6_emits_fieldLink_78 rfl rfl dX6_emits_31 ?_
    refine lv_iadd hx hb dX6_emits_34 ?_
    refine r_iald hx hb hK f_s.2.1 (vp_ib (lo := 786) (hi := 793) (ib_add (ib_nI (n := 786) (by decide)) (ib_lt (n := 8) (by omega) (by decide)) (by decide) (by decide)) (by decide) (by decide)) dX6_emits_35 ?_
    refine lv_iadd hx hb dX6_emits_36 ?_
    refine lv_iload_n hx hb dX6_emits_37 rfl (lv_at hl 1 rfl) ?_
    refine w_iast hx hb hK f_s.2.1 hS (.inr rfl) (vp_ib (lo := 794) (hi := 1894) (ib_add (ib_add (ib_nI (n := 794) (by decide)) (ib_mulk (k := 140) (ib_lt (n := 8) (by omega) (by decide)) (by decide) (by decide) (by decide)) (by decide) (by decide)) (hg.2.1.weak (lo2 := 0) (hi2 := 120) (by decide) (by have := hg.1; omega)) (by decide) (by decide)) (by decide) (by decide)) dX6_emits_38 (fun H locs hn hq hS => ?_)
    have f_s : PAt G M x (nI an) (nI en) (nI sp) wr (nI op) (upd sv ((794 + (140 * (nI an))) + (sv (786 + (nI an)).toNatClampNeg)).toNatClampNeg v) H := f_s.row hN hn hq
    refine lv_aload_n hx hb dX6_emits_39 rfl (lv_at hl 0 rfl) ?_
    refine r_get (C := RX6) (T := TX6) (N := 18) hx hb hts i_X6_emits_X6 hown hK f_s.1 rfl 1 (by decide) k_X6_emits_fieldLink_9 rfl rfl dX6_emits_40 ?_
    refine lv_sipush (v := 786) hx hb dX6_emits_43 (by decide +kernel) ?_
    refine lv_aload_n hx hb dX6_emits_46 rfl (lv_at hl 0 rfl) ?_
    refine r_get (C := RX6) (T := TX6) (N := 18) hx hb hts i_X6_emits_X6 hown hK f_s.1 rfl 4 (by decide) k_X6_emits_fieldLink_78 rfl rfl dX6_emits_47 ?_
    refine lv_iadd hx hb dX6_emits_50 ?_
    refine lv_dup2_11 hx hb dX6_emits_51 rfl rfl ?_
    refine r_iald hx hb hK f_s.2.1 (vp_ib (lo := 786) (hi := 793) (ib_add (ib_nI (n := 786) (by decide)) (ib_lt (n := 8) (by omega) (by decide)) (by decide) (by decide)) (by decide) (by decide)) dX6_emits_52 ?_
    refine lv_iconst (v := 1) hx hb dX6_emits_53 (by decide) ?_
    refine lv_iadd hx hb dX6_emits_54 ?_
    refine w_iast hx hb hK f_s.2.1 hS (.inr rfl) (vp_ib (lo := 786) (hi := 793) (ib_add (ib_nI (n := 786) (by decide)) (ib_lt (n := 8) (by omega) (by decide)) (by decide) (by decide)) (by decide) (by decide)) dX6_emits_55 (fun H locs hn hq hS => ?_)
    have f_s : PAt G M x (nI an) (nI en) (nI sp) wr (nI op) (upd (upd sv ((794 + (140 * (nI an))) + (sv (786 + (nI an)).toNatClampNeg)).toNatClampNeg v) (786 + (nI an)).toNatClampNeg (((upd sv ((794 + (140 * (nI an))) + (sv (786 + (nI an)).toNatClampNeg)).toNatClampNeg v) (786 + (nI an)).toNatClampNeg) + 1)) H := f_s.row hN hn hq
    have hE9 : r_emits an en v wr sv = upd (upd sv ((794 + (140 * (nI an))) + (sv (786 + (nI an)).toNatClampNeg)).toNatClampNeg v) (786 + (nI an)).toNatClampNeg (((upd sv ((794 + (140 * (nI an))) + (sv (786 + (nI an)).toNatClampNeg)).toNatClampNeg v) (786 + (nI an)).toNatClampNeg) + 1) := (by (try unfold r_emits); (repeat rw [if_neg h_1]); first | done | rfl)
    exact wr_vret hx hb hr hlocks dX6_emits_56 hS (by rw [hE9]; exact f_s)

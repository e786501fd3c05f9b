theorem isLaw_wf {x : MT} {c : Int32} (hI : mI (mS x)) (hMW : mW (mS x)) (h : r_isLaw x c = true) : wfL (mS x) c.toNatClampNeg := by
  have h1 := isLaw_ib hI h
  obtain ⟨n, rfl, h2, h3⟩ := h1.nI_eq (by decide)
  rw [nI_clamp (by omega)]
  have h4 := (in_le h).2
  have h0 : ib 0 8 (mS x 3) := hI 3 (3, 3, 0, 8) (by decide) (Nat.le_refl _) (Nat.le_refl _)
  have h5 : ib (0 - 1) (8 - 1) (mS x 3 - 1) := ib_sub h0 (ib_nI (n := 1) (by decide)) (by decide) (by decide)
  have e : (mS x 3 - 1).toInt = (mS x 3).toInt - 1 := by
    rw [Int32.toInt_sub]
    have := h0.1
    have := h0.2
    have e1 : (1 : Int32).toInt = 1 := rfl
    rw [e1]
    exact Int.bmod_eq_of_le (by omega) (by omega)
  have e2 : (nI n).toInt = n := Int32.toInt_ofNat_of_lt (by omega)
  have h4 : (nI n).toInt ≤ (mS x 3 - 1).toInt := h4
  exact hMW n (by omega)
theorem ib_ltc {y : Int32} {k : Nat} {m : Int} (h : ib 0 m y) (hk : k < y.toNatClampNeg) (hm : m < 2 ^ 31) : ib 0 (m - 1) (nI k) := by
  have hc := h.clamp (by decide)
  have e : (nI k).toInt = k := Int32.toInt_ofNat_of_lt (by omega)
  exact ⟨by rw [e]; omega, by rw [e]; omega⟩
theorem cnt_beq {y : Int32} {m : Int} (h : ib 0 m y) (hm : m < 2 ^ 31) : y = nI y.toNatClampNeg := by
  obtain ⟨n, rfl, h1, h2⟩ := h.nI_eq (by decide)
  rw [nI_clamp (by omega)]
theorem law_wf {x : MT} {k : Nat} (hI : mI (mS x)) (hMW : mW (mS x)) (hk : k < (mS x (3 : Int32).toNatClampNeg).toNatClampNeg) : wfL (mS x) (nI k).toNatClampNeg := by
  have h0 : ib 0 8 (mS x 3) := hI 3 (3, 3, 0, 8) (by decide) (Nat.le_refl _) (Nat.le_refl _)
  have hc := h0.clamp (by decide)
  have hk : k < (mS x 3).toNatClampNeg := hk
  rw [nI_clamp (by omega)]
  have e : ((mS x 3).toNatClampNeg : Int) = (mS x 3).toInt := by
    show (((mS x 3).toInt.toNat : Nat) : Int) = (mS x 3).toInt
    have := h0.1
    omega
  exact hMW k (by omega)
theorem kd_X6_saying : yX6_saying.cls = RX6 ∧ yX6_saying.cls ≠ "java/lang/invoke/MethodHandle" ∧ yX6_saying.cls ≠ "java/lang/invoke/VarHandle" ∧ (parseMethodDescriptor yX6_saying.desc).map (fun d => d.parameters.length) = some 3 := by decide +kernel
theorem kd_X6_byKind : yX6_byKind.cls = RX6 ∧ yX6_byKind.cls ≠ "java/lang/invoke/MethodHandle" ∧ yX6_byKind.cls ≠ "java/lang/invoke/VarHandle" ∧ (parseMethodDescriptor yX6_byKind.desc).map (fun d => d.parameters.length) = some 4 := by decide +kernel
def r_tellsOf (x : MT) (ll : Int32) (cc : Int32) (aa : Int32) (gg : Int32) : Int32 := if (sayV x ll aa gg) = (-1) then r_byKind x ll cc aa gg else sayV x ll aa gg
set_option maxHeartbeats 4000000 in
set_option maxRecDepth 100000 in
theorem c_X6_tellsOf (l : Launch) (G : GG) (M : Nat → Nat) (x : MT) (ll : Int32) (cc : Int32) (aa : Int32) (gg : Int32)  (hI : mI (mS x)) (hO : mO (mS x)) (hMW : mW (mS x)) (hN : mN M) (iL : ib 0 7 ll) (iC : ib 0 7 cc) (iA : ib 0 15 aa) (hW : wfL (mS x) ll.toNatClampNeg) : Met l yX6_tellsOf wsX6_tellsOf { frames := 3, cells := 0, slots := 0, locals := 81 } (roP G [.ref (M 0), .int ll, .int cc, .int aa, .int gg] (fun H => MAt G M x H)) (wrQ (some (.int ((r_tellsOf x ll cc aa gg)))) (fun H => MAt G M x H) (m3 M)) 0 0 (m3 M) := by
  refine Met.ofW (cc := cX6_tellsOf) (maxL := 6) (ret := (some .int)) (by decide) rfl ?_
  intro p e s m args below meth c s₁ Bd hml hv
  obtain ⟨rfl, hK, hB⟩ := hv
  have hx := Bd.exec
  have hb := Bd.bytes
  have hr := Bd.returns
  have hts := atoms_spec (ws := wsX6_tellsOf) Bd.pre
  have hown : s.vm.findClass RX6 = some m.cls := findClass_of_methodNamed Bd.named
  have hlocks := Bd.notSynchronized
  have hC : CallFix p m c cX6_tellsOf 6 s _ wsX6_tellsOf RX6 := ⟨hx, hb, hml, hown, hts⟩
  have hl := lv_entry ([.ref (M 0), .int ll, .int cc, .int aa, .int gg]) (n := 6) (Nat.le_of_ble_eq_true rfl)
  rw [lg_entry_eq]
  generalize (lg_sl ([.ref (M 0), .int ll, .int cc, .int aa, .int gg]) ++ List.replicate (6 - (lg_sl ([.ref (M 0), .int ll, .int cc, .int aa, .int gg])).length) Slot.unset).toArray = ls at hl ⊢
  have hl : lv_has ls 6 [(0, .ref (M 0)), (1, .int ll), (2, .int cc), (3, .int aa), (4, .int gg)] := hl
  have hS : wS (m3 M) s.heap s.heap [] := wS.rf
  have f_s := hB
  have hZ := trivial
  refine lv_aload_n hx hb dX6_tellsOf_0 rfl (lv_at hl 0 rfl) ?_
  refine lv_iload_n hx hb dX6_tellsOf_1 rfl (lv_at hl 1 rfl) ?_
  refine lv_iload_n hx hb dX6_tellsOf_2 rfl (lv_at hl 3 rfl) ?_
  refine lv_iload hx hb dX6_tellsOf_3 (lv_at hl 4 rfl) ?_
  refine wr_call (va_runV (As := [.int ll, .int aa, .int gg]) (rest := []) hC (c3_X6_saying l G M x ll aa gg hI hO hN (ib.weak iL (by decide) (by decide)) (ib.weak iA (by decide) (by decide)) hW) (cwV 3 hts gX6_tellsOf_X6_saying rfl rfl rfl kd_X6_saying ⟨Nat.le_of_ble_eq_true rfl, Nat.le_of_ble_eq_true rfl⟩) (ro_preV hK f_s.1 rfl f_s) rfl rfl hl.1 rfl (lv_room (Nat.le_of_ble_eq_true rfl)) dX6_tellsOf_5 ⟨Nat.zero_le _, Nat.zero_le _⟩) hS (fun q h => h) (fun H locs f_n hq hS => ?_)
  have f_s := f_n
  refine lv_istore (lv' := [(5, .int (sayV x ll aa gg)), (0, .ref (M 0)), (1, .int ll), (2, .int cc), (3, .int aa), (4, .int gg)]) hx hb dX6_tellsOf_8 hl (by decide) rfl (fun ls hl => ?_)
  refine lv_iload hx hb dX6_tellsOf_10 (lv_at hl 0 rfl) ?_
  refine lv_iconst (v := (-1)) hx hb dX6_tellsOf_12 (by decide) ?_
  refine join_wr (nL := 6) 30 [(5, .int (sayV x ll aa gg)), (0, .ref (M 0)), (1, .int ll), (2, .int cc), (3, .int aa), (4, .int gg)] [.int (if (sayV x ll aa gg) = (-1) then r_byKind x ll cc aa gg else sayV x ll aa gg)] (fun H locs => (MAt G M x H) ∧ wS (m3 M) s.heap H locs ∧ True) (fun H locs hI ls hl => ?_) (fun J_1 => ?_)
  · obtain ⟨f_s, hS, hZ⟩ := hI
    have hE9 : r_tellsOf x ll cc aa gg = if (sayV x ll aa gg) = (-1) then r_byKind x ll cc aa gg else sayV x ll aa gg := (by (try unfold r_tellsOf); first | done | rfl)
    exact wr_iret hx hb hr hlocks dX6_tellsOf_30 hS (by first | exact f_s | (rw [hE9]; exact f_s)) (by rw [hE9]; first | done | rfl)
  · refine lv_icmp_ne (tgt := 28) hx hb dX6_tellsOf_13 (by decide) (fun h_2 => ?_) (fun h_2 => ?_)
    · refine lv_iload hx hb dX6_tellsOf_28 (lv_at hl 0 rfl) ?_
      have hJ := J_1; (repeat rw [if_neg h_2] at hJ)
      first | exact hJ _ _ ⟨f_s, hS, hZ⟩ ls (lv_sub hl [0, 1, 2, 3, 4, 5] rfl) | ((repeat rw [if_neg h_2] at hl); (repeat rw [if_neg h_2]); exact hJ _ _ ⟨f_s, hS, hZ⟩ ls (lv_sub hl [0, 1, 2, 3, 4, 5] rfl))
    · refine lv_aload_n hx hb dX6_tellsOf_16 rfl (lv_at hl 1 rfl) ?_
      refine lv_iload_n hx hb dX6_tellsOf_17 rfl (lv_at hl 2 rfl) ?_
      refine lv_iload_n hx hb dX6_tellsOf_18 rfl (lv_at hl 3 rfl) ?_
      refine lv_iload_n hx hb dX6_tellsOf_19 rfl (lv_at hl 4 rfl) ?_
      refine lv_iload hx hb dX6_tellsOf_20 (lv_at hl 5 rfl) ?_
      refine ro_call (va_runV (As := [.int ll, .int cc, .int aa, .int gg]) (rest := []) hC (c_X6_byKind l G M x ll cc aa gg hI hO (ib.weak iL (by decide) (by decide)) (ib.weak iC (by decide) (by decide)) (ib.weak iA (by decide) (by decide))) (cwV 4 hts gX6_tellsOf_X6_byKind rfl rfl rfl kd_X6_byKind ⟨Nat.le_of_ble_eq_true rfl, Nat.le_of_ble_eq_true rfl⟩) (ro_preV hK f_s.1 rfl f_s) rfl rfl hl.1 rfl (lv_room (Nat.le_of_ble_eq_true rfl)) dX6_tellsOf_22 ⟨Nat.zero_le _, Nat.zero_le _⟩) ?_
      refine lv_goto (tgt := 30) hx hb dX6_tellsOf_25 (by decide) ?_
      have hJ := J_1; (repeat rw [if_pos h_2] at hJ)
      first | exact hJ _ _ ⟨f_s, hS, hZ⟩ ls (lv_sub hl [0, 1, 2, 3, 4, 5] rfl) | ((repeat rw [if_pos h_2] at hl); (repeat rw [if_pos h_2]); exact hJ _ _ ⟨f_s, hS, hZ⟩ ls (lv_sub hl [0, 1, 2, 3, 4, 5] rfl))
theorem i_X6_tells_X6 : ∀ w ∈ wsX60, w ∈ wsX6_tells := fun _ h => List.mem_cons_of_mem _ (List.mem_append_right _ h)
theorem k_X6_tells_fieldLink_9 : Cond.fieldLink RX6 9 "SameWaterModel" "s" "[I" ∈ wsX6_tells := by decide +kernel
theorem kd_X6_tellsOf : yX6_tellsOf.cls = RX6 ∧ yX6_tellsOf.cls ≠ "java/lang/invoke/MethodHandle" ∧ yX6_tellsOf.cls ≠ "java/lang/invoke/VarHandle" ∧ (parseMethodDescriptor yX6_tellsOf.desc).map (fun d => d.parameters.length) = some 4 := by decide +kernel
def r_tells (x : MT) (law : Int32) (child : Int32) (asking : Int32) : Int32 := if (r_isLaw x law) = true then if (r_isChild x child) = true then if (r_isAsking x asking) = true then r_tellsOf x law child asking ((mS x) (130 + child).toNatClampNeg) else (-1) else (-1) else (-1)
set_option maxHeartbeats 4000000 in
set_option maxRecDepth 100000 in
theorem c_X6_tells (l : Launch) (G : GG) (M : Nat → Nat) (x : MT) (law : Int32) (child : Int32) (asking : Int32)  (hI : mI (mS x)) (hO : mO (mS x)) (hMW : mW (mS x)) (hN : mN M) : Met l yX6_tells wsX6_tells { frames := 4, cells := 0, slots := 0, locals := 106 } (roP G [.ref (M 0), .int law, .int child, .int asking] (fun H => MAt G M x H)) (wrQ (some (.int ((r_tells x law child asking)))) (fun H => MAt G M x H) (m3 M)) 0 0 (m3 M) := by
  refine Met.ofW (cc := cX6_tells) (maxL := 4) (ret := (some .int)) (by decide) rfl ?_
  intro p e s m args below meth c s₁ Bd hml hv
  obtain ⟨rfl, hK, hB⟩ := hv
  have hx := Bd.exec
  have hb := Bd.bytes
  have hr := Bd.returns
  have hts := atoms_spec (ws := wsX6_tells) Bd.pre
  have hown : s.vm.findClass RX6 = some m.cls := findClass_of_methodNamed Bd.named
  have hlocks := Bd.notSynchronized
  have hC : CallFix p m c cX6_tells 4 s _ wsX6_tells RX6 := ⟨hx, hb, hml, hown, hts⟩
  have hl := lv_entry ([.ref (M 0), .int law, .int child, .int asking]) (n := 4) (Nat.le_of_ble_eq_true rfl)
  rw [lg_entry_eq]
  generalize (lg_sl ([.ref (M 0), .int law, .int child, .int asking]) ++ List.replicate (4 - (lg_sl ([.ref (M 0), .int law, .int child, .int asking])).length) Slot.unset).toArray = ls at hl ⊢
  have hl : lv_has ls 4 [(0, .ref (M 0)), (1, .int law), (2, .int child), (3, .int asking)] := hl
  have hS : wS (m3 M) s.heap s.heap [] := wS.rf
  have f_s := hB
  have hZ := trivial
  refine lv_aload_n hx hb dX6_tells_0 rfl (lv_at hl 0 rfl) ?_
  refine lv_iload_n hx hb dX6_tells_1 rfl (lv_at hl 1 rfl) ?_
  refine ro_call (va_runV (As := [.int law]) (rest := []) hC (c_X6_isLaw l G M x law) (cwV 1 hts gX6_tells_X6_isLaw rfl rfl rfl kd_X6_isLaw ⟨Nat.le_of_ble_eq_true rfl, Nat.le_of_ble_eq_true rfl⟩) (ro_preV hK f_s.1 rfl f_s) rfl rfl hl.1 rfl (lv_room (Nat.le_of_ble_eq_true rfl)) dX6_tells_2 ⟨Nat.zero_le _, Nat.zero_le _⟩) ?_
  refine bz_eq (tgt := 44) hx hb dX6_tells_5 (by decide) (fun h_1 => ?_) (fun h_1 => ?_)
  · refine lv_iconst (v := (-1)) hx hb dX6_tells_44 (by decide) ?_
    have hE9 : r_tells x law child asking = (-1) := (by (try unfold r_tells); (repeat rw [if_neg h_1]); first | done | rfl)
    exact wr_iret hx hb hr hlocks dX6_tells_45 hS (by first | exact f_s | (rw [hE9]; exact f_s)) (by rw [hE9]; first | done | rfl)
  · refine lv_aload_n hx hb dX6_tells_8 rfl (lv_at hl 0 rfl) ?_
    refine lv_iload_n hx hb dX6_tells_9 rfl (lv_at hl 2 rfl) ?_
    refine ro_call (va_runV (As := [.int child]) (rest := []) hC (c_X6_isChild l G M x child) (cwV 1 hts gX6_tells_X6_isChild rfl rfl rfl kd_X6_isChild ⟨Nat.le_of_ble_eq_true rfl, Nat.le_of_ble_eq_true rfl⟩) (ro_preV hK f_s.1 rfl f_s) rfl rfl hl.1 rfl (lv_room (Nat.le_of_ble_eq_true rfl)) dX6_tells_10 ⟨Nat.zero_le _, Nat.zero_le _⟩) ?_
    refine bz_eq (tgt := 44) hx hb dX6_tells_13 (by decide) (fun h_2 => ?_) (fun h_2 => ?_)
    · refine lv_iconst (v := (-1)) hx hb dX6_tells_44 (by decide) ?_
      have hE9 : r_tells x law child asking = (-1) := (by (try unfold r_tells); (repeat rw [if_pos h_1]); (repeat rw [if_neg h_2]); first | done | rfl)
      exact wr_iret hx hb hr hlocks dX6_tells_45 hS (by first | exact f_s | (rw [hE9]; exact f_s)) (by rw [hE9]; first | done | rfl)
    · refine lv_aload_n hx hb dX6_tells_16 rfl (lv_at hl 0 rfl) ?_
      refine lv_iload_n hx hb dX6_tells_17 rfl (lv_at hl 3 rfl) ?_
      refine ro_call (va_runV (As := [.int asking]) (rest := []) hC (c_X6_isAsking l G M x asking) (cwV 1 hts gX6_tells_X6_isAsking rfl rfl rfl kd_X6_isAsking ⟨Nat.le_of_ble_eq_true rfl, Nat.le_of_ble_eq_true rfl⟩) (ro_preV hK f_s.1 rfl f_s) rfl rfl hl.1 rfl (lv_room (Nat.le_of_ble_eq_true rfl)) dX6_tells_18 ⟨Nat.zero_le _, Nat.zero_le _⟩) ?_
      refine bz_eq (tgt := 44) hx hb dX6_tells_21 (by decide) (fun h_3 => ?_) (fun h_3 => ?_)
      · refine lv_iconst (v := (-1)) hx hb dX6_tells_44 (by decide) ?_
        have hE9 : r_tells x law child asking = (-1) := (by (try unfold r_tells); (repeat rw [if_pos h_1]); (repeat rw [if_pos h_2]); (repeat rw [if_neg h_3]); first | done | rfl)
        exact wr_iret hx hb hr hlocks dX6_tells_45 hS (by first | exact f_s | (rw [hE9]; exact f_s)) (by rw [hE9]; first | done | rfl)
      · refine lv_aload_n hx hb dX6_tells_24 rfl (lv_at hl 0 rfl) ?_
        refine lv_iload_n hx hb dX6_tells_25 rfl (lv_at hl 1 rfl) ?_
        refine lv_iload_n hx hb dX6_tells_26 rfl (lv_at hl 2 rfl) ?_
        refine lv_iload_n hx hb dX6_tells_27 rfl (lv_at hl 3 rfl) ?_
        refine lv_aload_n hx hb dX6_tells_28 rfl (lv_at hl 0 rfl) ?_
        refine r_get (C := RX6) (T := TX6) (N := 18) hx hb hts i_X6_tells_X6 hown hK f_s.1 rfl 1 (by decide) k_X6_tells_fieldLink_9 rfl rfl dX6_tells_29 ?_
        refine lv_sipush (v := 130) hx hb dX6_tells_32 (by decide +kernel) ?_
        refine lv_iload_n hx hb dX6_tells_35 rfl (lv_at hl 2 rfl) ?_
        refine lv_iadd hx hb dX6_tells_36 ?_
        refine r_iald hx hb hK f_s.2.1 (vp_ib (lo := 130) (hi := 137) (ib_add (ib_nI (n := 130) (by decide)) (isChild_ib hI h_2) (by decide) (by decide)) (by decide) (by decide)) dX6_tells_37 ?_
        refine wr_call (va_runV (As := [.int law, .int child, .int asking, .int ((mS x) (130 + child).toNatClampNeg)]) (rest := []) hC (c_X6_tellsOf l G M x law child asking ((mS x) (130 + child).toNatClampNeg) hI hO hMW hN (ib.weak (isLaw_ib hI h_1) (by decide) (by decide)) (ib.weak (isChild_ib hI h_2) (by decide) (by decide)) (ib.weak (isAsking_ib hI h_3) (by decide) (by decide)) (isLaw_wf hI hMW h_1)) (cwV 4 hts gX6_tells_X6_tellsOf rfl rfl rfl kd_X6_tellsOf ⟨Nat.le_of_ble_eq_true rfl, Nat.le_of_ble_eq_true rfl⟩) (ro_preV hK f_s.1 rfl f_s) rfl rfl hl.1 rfl (lv_room (Nat.le_of_ble_eq_true rfl)) dX6_tells_38 ⟨Nat.zero_le _, Nat.zero_le _⟩) hS (fun q h => h) (fun H locs f_n hq hS => ?_)
        have f_s := f_n
        refine lv_goto (tgt := 45) hx hb dX6_tells_41 (by decide) ?_
        have hE9 : r_tells x law child asking = r_tellsOf x law child asking ((mS x) (130 + child).toNatClampNeg) := (by (try unfold r_tells); (repeat rw [if_pos h_1]); (repeat rw [if_pos h_2]); (repeat rw [if_pos h_3]); first | done | rfl)
        exact wr_iret hx hb hr hlocks dX6_tells_45 hS (by first | exact f_s | (rw [hE9]; exact f_s)) (by rw [hE9]; first | done | rfl)
theorem i_X6_isAsTold_X6 : ∀ w ∈ wsX60, w ∈ wsX6_isAsTold := fun _ h => List.mem_cons_of_mem _ (List.mem_append_right _ h)
theorem k_X6_isAsTold_fieldLink_9 : Cond.fieldLink RX6 9 "SameWaterModel" "s" "[I" ∈ wsX6_isAsTold := by decide +kernel
def r_isAsTold (x : MT) (ll : Int32) (tt : Int32) : Bool := (if (r_tellsOf x ll ((mS x) (282 + tt).toNatClampNeg) ((mS x) (322 + tt).toNatClampNeg) ((mS x) (442 + tt).toNatClampNeg)) = ((mS x) (362 + tt).toNatClampNeg) then true else false)
set_option maxHeartbeats 4000000 in
set_option maxRecDepth 100000 in
theorem c_X6_isAsTold (l : Launch) (G : GG) (M : Nat → Nat) (x : MT) (ll : Int32) (tt : Int32)  (hI : mI (mS x)) (hO : mO (mS x)) (hMW : mW (mS x)) (hN : mN M) (iL : ib 0 7 ll) (iT : ib 0 39 tt) (hW : wfL (mS x) ll.toNatClampNeg) : Met l yX6_isAsTold wsX6_isAsTold { frames := 4, cells := 0, slots := 0, locals := 106 } (roP G [.ref (M 0), .int ll, .int tt] (fun H => MAt G M x H)) (wrQ (some (.int (b2i ((r_isAsTold x ll tt))))) (fun H => MAt G M x H) (m3 M)) 0 0 (m3 M) := by
  refine Met.ofW (cc := cX6_isAsTold) (maxL := 3) (ret := (some .boolean)) (by decide) rfl ?_
  intro p e s m args below meth c s₁ Bd hml hv
  obtain ⟨rfl, hK, hB⟩ := hv
  have hx := Bd.exec
  have hb := Bd.bytes
  have hr := Bd.returns
  have hts := atoms_spec (ws := wsX6_isAsTold) Bd.pre
  have hown : s.vm.findClass RX6 = some m.cls := findClass_of_methodNamed Bd.named
  have hlocks := Bd.notSynchronized
  have hC : CallFix p m c cX6_isAsTold 3 s _ wsX6_isAsTold RX6 := ⟨hx, hb, hml, hown, hts⟩
  have hl := lv_entry ([.ref (M 0), .int ll, .int tt]) (n := 3) (Nat.le_of_ble_eq_true rfl)
  rw [lg_entry_eq]
  generalize (lg_sl ([.ref (M 0), .int ll, .int tt]) ++ List.replicate (3 - (lg_sl ([.ref (M 0), .int ll, .int tt])).length) Slot.unset).toArray = ls at hl ⊢
  have hl : lv_has ls 3 [(0, .ref (M 0)), (1, .int ll), (2, .int tt)] := hl
  have hS : wS (m3 M) s.heap s.heap [] := wS.rf
  have f_s := hB
  have hZ := trivial
  refine lv_aload_n hx hb dX6_isAsTold_0 rfl (lv_at hl 0 rfl) ?_
  refine lv_iload_n hx hb dX6_isAsTold_1 rfl (lv_at hl 1 rfl) ?_
  refine lv_aload_n hx hb dX6_isAsTold_2 rfl (lv_at hl 0 rfl) ?_
  refine r_get (C := RX6) (T := TX6) (N := 18) hx hb hts i_X6_isAsTold_X6 hown hK f_s.1 rfl 1 (by decide) k_X6_isAsTold_fieldLink_9 rfl rfl dX6_isAsTold_3 ?_
  refine lv_sipush (v := 282) hx hb dX6_isAsTold_6 (by decide +kernel) ?_
  refine lv_iload_n hx hb dX6_isAsTold_9 rfl (lv_at hl 2 rfl) ?_
  refine lv_iadd hx hb dX6_isAsTold_10 ?_
  refine r_iald hx hb hK f_s.2.1 (vp_ib (lo := 282) (hi := 321) (ib_add (ib_nI (n := 282) (by decide)) iT (by decide) (by decide)) (by decide) (by decide)) dX6_isAsTold_11 ?_
  refine lv_aload_n hx hb dX6_isAsTold_12 rfl (lv_at hl 0 rfl) ?_
  refine r_get (C := RX6) (T := TX6) (N := 18) hx hb hts i_X6_isAsTold_X6 hown hK f_s.1 rfl 1 (by decide) k_X6_isAsTold_fieldLink_9 rfl rfl dX6_isAsTold_13 ?_
  refine lv_sipush (v := 322) hx hb dX6_isAsTold_16 (by decide +kernel) ?_
  refine lv_iload_n hx hb dX6_isAsTold_19 rfl (lv_at hl 2 rfl) ?_
  refine lv_iadd hx hb dX6_isAsTold_20 ?_
  refine r_iald hx hb hK f_s.2.1 (vp_ib (lo := 322) (hi := 361) (ib_add (ib_nI (n := 322) (by decide)) iT (by decide) (by decide)) (by decide) (by decide)) dX6_isAsTold_21 ?_
  refine lv_aload_n hx hb dX6_isAsTold_22 rfl (lv_at hl 0 rfl) ?_
  refine r_get (C := RX6) (T := TX6) (N := 18) hx hb hts i_X6_isAsTold_X6 hown hK f_s.1 rfl 1 (by decide) k_X6_isAsTold_fieldLink_9 rfl rfl dX6_isAsTold_23 ?_
  refine lv_sipush (v := 442) hx hb dX6_isAsTold_26 (by decide +kernel) ?_
  refine lv_iload_n hx hb dX6_isAsTold_29 rfl (lv_at hl 2 rfl) ?_
  refine lv_iadd hx hb dX6_isAsTold_30 ?_
  refine r_iald hx hb hK f_s.2.1 (vp_ib (lo := 442) (hi := 481) (ib_add (ib_nI (n := 442) (by decide)) iT (by decide) (by decide)) (by decide) (by decide)) dX6_isAsTold_31 ?_
  refine wr_call (va_runV (As := [.int ll, .int ((mS x) (282 + tt).toNatClampNeg), .int ((mS x) (322 + tt).toNatClampNeg), .int ((mS x) (442 + tt).toNatClampNeg)]) (rest := []) hC (c_X6_tellsOf l G M x ll ((mS x) (282 + tt).toNatClampNeg) ((mS x) (322 + tt).toNatClampNeg) ((mS x) (442 + tt).toNatClampNeg) hI hO hMW hN (ib.weak iL (by decide) (by decide)) (ib.weak (mI.at (lo := 282) (hi := 321) (x := 0) (y := 7) hI (ib_add (ib_nI (n := 282) (by decide)) iT (by decide) (by decide)) (by decide) (by decide) (by decide)) (by decide) (by decide)) (ib.weak (mI.at (lo := 322) (hi := 361) (x := 0) (y := 15) hI (ib_add (ib_nI (n := 322) (by decide)) iT (by decide) (by decide)) (by decide) (by decide) (by decide)) (by decide) (by decide)) hW) (cwV 4 hts gX6_isAsTold_X6_tellsOf rfl rfl rfl kd_X6_tellsOf ⟨Nat.le_of_ble_eq_true rfl, Nat.le_of_ble_eq_true rfl⟩) (ro_preV hK f_s.1 rfl f_s) rfl rfl hl.1 rfl (lv_room (Nat.le_of_ble_eq_true rfl)) dX6_isAsTold_32 ⟨Nat.zero_le _, Nat.zero_le _⟩) hS (fun q h => h) (fun H locs f_n hq hS => ?_)
  have f_s := f_n
  refine lv_aload_n hx hb dX6_isAsTold_35 rfl (lv_at hl 0 rfl) ?_
  refine r_get (C := RX6) (T := TX6) (N := 18) hx hb hts i_X6_isAsTold_X6 hown hK f_s.1 rfl 1 (by decide) k_X6_isAsTold_fieldLink_9 rfl rfl dX6_isAsTold_36 ?_
  refine lv_sipush (v := 362) hx hb dX6_isAsTold_39 (by decide +kernel) ?_
  refine lv_iload_n hx hb dX6_isAsTold_42 rfl (lv_at hl 2 rfl) ?_
  refine lv_iadd hx hb dX6_isAsTold_43 ?_
  refine r_iald hx hb hK f_s.2.1 (vp_ib (lo := 362) (hi := 401) (ib_add (ib_nI (n := 362) (by decide)) iT (by decide) (by decide)) (by decide) (by decide)) dX6_isAsTold_44 ?_
  refine join_wr (nL := 3) 53 [(0, .ref (M 0)), (1, .int ll), (2, .int tt)] [.int (b2i (if (r_tellsOf x ll ((mS x) (282 + tt).toNatClampNeg) ((mS x) (322 + tt).toNatClampNeg) ((mS x) (442 + tt).toNatClampNeg)) = ((mS x) (362 + tt).toNatClampNeg) then true else false))] (fun H locs => (MAt G M x H) ∧ wS (m3 M) s.heap H locs ∧ True) (fun H locs hI ls hl => ?_) (fun J_1 => ?_)
  · obtain ⟨f_s, hS, hZ⟩ := hI
    have hE9 : r_isAsTold x ll tt = (if (r_tellsOf x ll ((mS x) (282 + tt).toNatClampNeg) ((mS x) (322 + tt).toNatClampNeg) ((mS x) (442 + tt).toNatClampNeg)) = ((mS x) (362 + tt).toNatClampNeg) then true else false) := (by (try unfold r_isAsTold); first | done | rfl)
    exact wr_zret hx hb hr hlocks dX6_isAsTold_53 hS (by first | exact f_s | (rw [hE9]; exact f_s)) (by rw [hE9]; first | done | rfl)
  · refine lv_icmp_ne (tgt := 52) hx hb dX6_isAsTold_45 (by decide) (fun h_2 => ?_) (fun h_2 => ?_)
    · refine lv_iconst (v := 0) hx hb dX6_isAsTold_52 (by decide) ?_
      have hJ := J_1; (repeat rw [if_neg h_2] at hJ)
      first | exact hJ _ _ ⟨f_s, hS, hZ⟩ ls (lv_sub hl [0, 1, 2] rfl) | ((repeat rw [if_neg h_2] at hl); (repeat rw [if_neg h_2]); exact hJ _ _ ⟨f_s, hS, hZ⟩ ls (lv_sub hl [0, 1, 2] rfl))
    · refine lv_iconst (v := 1) hx hb dX6_isAsTold_48 (by decide) ?_
      refine lv_goto (tgt := 53) hx hb dX6_isAsTold_49 (by decide) ?_
      have hJ := J_1; (repeat rw [if_pos h_2] at hJ)
      first | exact hJ _ _ ⟨f_s, hS, hZ⟩ ls (lv_sub hl [0, 1, 2] rfl) | ((repeat rw [if_pos h_2] at hl); (repeat rw [if_pos h_2]); exact hJ _ _ ⟨f_s, hS, hZ⟩ ls (lv_sub hl [0, 1, 2] rfl))
theorem i_X6_chanceOf_X6 : ∀ w ∈ wsX60, w ∈ wsX6_chanceOf := fun _ h => List.mem_cons_of_mem _ (List.mem_append_right _ h)
theorem k_X6_chanceOf_fieldLink_9 : Cond.fieldLink RX6 9 "SameWaterModel" "s" "[I" ∈ wsX6_chanceOf := by decide +kernel
theorem kd_X6_isAsTold : yX6_isAsTold.cls = RX6 ∧ yX6_isAsTold.cls ≠ "java/lang/invoke/MethodHandle" ∧ yX6_isAsTold.cls ≠ "java/lang/invoke/VarHandle" ∧ (parseMethodDescriptor yX6_isAsTold.desc).map (fun d => d.parameters.length) = some 2 := by decide +kernel
def r_chanceOf (x : MT) (ll : Int32) (tt : Int32) : Int64 := if (r_isAsTold x ll tt) = true then (200 - (2 * ((mS x) (498 + ll).toNatClampNeg)) : Int32).toInt64 else ((mS x) (498 + ll).toNatClampNeg : Int32).toInt64
set_option maxHeartbeats 4000000 in
set_option maxRecDepth 100000 in
theorem c_X6_chanceOf (l : Launch) (G : GG) (M : Nat → Nat) (x : MT) (ll : Int32) (tt : Int32)  (hI : mI (mS x)) (hO : mO (mS x)) (hMW : mW (mS x)) (hN : mN M) (iL : ib 0 7 ll) (iT : ib 0 39 tt) (hW : wfL (mS x) ll.toNatClampNeg) : Met l yX6_chanceOf wsX6_chanceOf { frames := 5, cells := 0, slots := 0, locals := 128 } (roP G [.ref (M 0), .int ll, .int tt] (fun H => MAt G M x H)) (wrQ (some (.long ((r_chanceOf x ll tt)))) (fun H => MAt G M x H) (m3 M)) 0 0 (m3 M) := by
  refine Met.ofW (cc := cX6_chanceOf) (maxL := 3) (ret := (some .long)) (by decide) rfl ?_
  intro p e s m args below meth c s₁ Bd hml hv
  obtain ⟨rfl, hK, hB⟩ := hv
  have hx := Bd.exec
  have hb := Bd.bytes
  have hr := Bd.returns
  have hts := atoms_spec (ws := wsX6_chanceOf) Bd.pre
  have hown : s.vm.findClass RX6 = some m.cls := findClass_of_methodNamed Bd.named
  have hlocks := Bd.notSynchronized
  have hC : CallFix p m c cX6_chanceOf 3 s _ wsX6_chanceOf RX6 := ⟨hx, hb, hml, hown, hts⟩
  have hl := lv_entry ([.ref (M 0), .int ll, .int tt]) (n := 3) (Nat.le_of_ble_eq_true rfl)
  rw [lg_entry_eq]
  generalize (lg_sl ([.ref (M 0), .int ll, .int tt]) ++ List.replicate (3 - (lg_sl ([.ref (M 0), .int ll, .int tt])).length) Slot.unset).toArray = ls at hl ⊢
  have hl : lv_has ls 3 [(0, .ref (M 0)), (1, .int ll), (2, .int tt)] := hl
  have hS : wS (m3 M) s.heap s.heap [] := wS.rf
  have f_s := hB
  have hZ := trivial
  refine lv_aload_n hx hb dX6_chanceOf_0 rfl (lv_at hl 0 rfl) ?_
  refine lv_iload_n hx hb dX6_chanceOf_1 rfl (lv_at hl 1 rfl) ?_
  refine lv_iload_n hx hb dX6_chanceOf_2 rfl (lv_at hl 2 rfl) ?_
  refine wr_call (va_runV (As := [.int ll, .int tt]) (rest := []) hC (c_X6_isAsTold l G M x ll tt hI hO hMW hN (ib.weak iL (by decide) (by decide)) (ib.weak iT (by decide) (by decide)) hW) (cwV 2 hts gX6_chanceOf_X6_isAsTold rfl rfl rfl kd_X6_isAsTold ⟨Nat.le_of_ble_eq_true rfl, Nat.le_of_ble_eq_true rfl⟩) (ro_preV hK f_s.1 rfl f_s) rfl rfl hl.1 rfl (lv_room (Nat.le_of_ble_eq_true rfl)) dX6_chanceOf_3 ⟨Nat.zero_le _, Nat.zero_le _⟩) hS (fun q h => h) (fun H locs f_n hq hS => ?_)
  have f_s := f_n
  refine join_wr (nL := 3) 40 [(0, .ref (M 0)), (1, .int ll), (2, .int tt)] [.long (if (r_isAsTold x ll tt) = true then (200 - (2 * ((mS x) (498 + ll).toNatClampNeg)) : Int32).toInt64 else ((mS x) (498 + ll).toNatClampNeg : Int32).toInt64)] (fun H locs => (MAt G M x H) ∧ wS (m3 M) s.heap H locs ∧ True) (fun H locs hI ls hl => ?_) (fun J_1 => ?_)
  · obtain ⟨f_s, hS, hZ⟩ := hI
    have hE9 : r_chanceOf x ll tt = if (r_isAsTold x ll tt) = true then (200 - (2 * ((mS x) (498 + ll).toNatClampNeg)) : Int32).toInt64 else ((mS x) (498 + ll).toNatClampNeg : Int32).toInt64 := (by (try unfold r_chanceOf); first | done | rfl)
    exact wr_lret hx hb hr hlocks dX6_chanceOf_40 hS (by first | exact f_s | (rw [hE9]; exact f_s)) (by rw [hE9]; first | done | rfl)
  · refine bz_eq (tgt := 29) hx hb dX6_chanceOf_6 (by decide) (fun h_2 => ?_) (fun h_2 => ?_)
    · refine lv_aload_n hx hb dX6_chanceOf_29 rfl (lv_at hl 0 rfl) ?_
      refine r_get (C := RX6) (T := TX6) (N := 18) hx hb hts i_X6_chanceOf_X6 hown hK f_s.1 rfl 1 (by decide) k_X6_chanceOf_fieldLink_9 rfl rfl dX6_chanceOf_30 ?_
      refine lv_sipush (v := 498) hx hb dX6_chanceOf_33 (by decide +kernel) ?_
      refine lv_iload_n hx hb dX6_chanceOf_36 rfl (lv_at hl 1 rfl) ?_
      refine lv_iadd hx hb dX6_chanceOf_37 ?_
      refine r_iald hx hb hK f_s.2.1 (vp_ib (lo := 498) (hi := 505) (ib_add (ib_nI (n := 498) (by decide)) iL (by decide) (by decide)) (by decide) (by decide)) dX6_chanceOf_38 ?_
      refine lv_i2l (v := ((mS x) (498 + ll).toNatClampNeg : Int32).toInt64) hx hb dX6_chanceOf_39 rfl ?_
      have hJ := J_1; (repeat rw [if_neg h_2] at hJ)
      first | exact hJ _ _ ⟨f_s, hS, hZ⟩ ls (lv_sub hl [0, 1, 2] rfl) | ((repeat rw [if_neg h_2] at hl); (repeat rw [if_neg h_2]); exact hJ _ _ ⟨f_s, hS, hZ⟩ ls (lv_sub hl [0, 1, 2] rfl))
    · refine lv_sipush (v := 200) hx hb dX6_chanceOf_9 (by decide +kernel) ?_
      refine lv_iconst (v := 2) hx hb dX6_chanceOf_12 (by decide) ?_
      refine lv_aload_n hx hb dX6_chanceOf_13 rfl (lv_at hl 0 rfl) ?_
      refine r_get (C := RX6) (T := TX6) (N := 18) hx hb hts i_X6_chanceOf_X6 hown hK f_s.1 rfl 1 (by decide) k_X6_chanceOf_fieldLink_9 rfl rfl dX6_chanceOf_14 ?_
      refine lv_sipush (v := 498) hx hb dX6_chanceOf_17 (by decide +kernel) ?_
      refine lv_iload_n hx hb dX6_chanceOf_20 rfl (lv_at hl 1 rfl) ?_
      refine lv_iadd hx hb dX6_chanceOf_21 ?_
      refine r_iald hx hb hK f_s.2.1 (vp_ib (lo := 498) (hi := 505) (ib_add (ib_nI (n := 498) (by decide)) iL (by decide) (by decide)) (by decide) (by decide)) dX6_chanceOf_22 ?_
      refine lv_imul hx hb dX6_chanceOf_23 ?_
      refine lv_isub hx hb dX6_chanceOf_24 ?_
      refine lv_i2l (v := (200 - (2 * ((mS x) (498 + ll).toNatClampNeg)) : Int32).toInt64) hx hb dX6_chanceOf_25 rfl ?_
      refine lv_goto (tgt := 40) hx hb dX6_chanceOf_26 (by decide) ?_
      have hJ := J_1; (repeat rw [if_pos h_2] at hJ)
      first | exact hJ _ _ ⟨f_s, hS, hZ⟩ ls (lv_sub hl [0, 1, 2] rfl) | ((repeat rw [if_pos h_2] at hl); (repeat rw [if_pos h_2]); exact hJ _ _ ⟨f_s, hS, hZ⟩ ls (lv_sub hl [0, 1, 2] rfl))
theorem kd_X6_chanceOf : yX6_chanceOf.cls = RX6 ∧ yX6_chanceOf.cls ≠ "java/lang/invoke/MethodHandle" ∧ yX6_chanceOf.cls ≠ "java/lang/invoke/VarHandle" ∧ (parseMethodDescriptor yX6_chanceOf.desc).map (fun d => d.parameters.length) = some 2 := by decide +kernel
def r_oddsGo (x : MT) (ll set : Int32) : Nat → Nat → Int64 → Int64
  | 0, _, v => v
  | n + 1, k, v => if ((set >>> ((nI k) &&& 31)) &&& 1) = 1 then r_oddsGo x ll set n (k + 1) (v * (r_chanceOf x ll (nI k))) else r_oddsGo x ll set n (k + 1) v
theorem r_oddsGo_0 (x : MT) (ll set : Int32) (k : Nat) (v : Int64) : r_oddsGo x ll set 0 k v = (v) := rfl
theorem r_oddsGo_s (x : MT) (ll set : Int32) (n k : Nat) (v : Int64) : r_oddsGo x ll set (n + 1) k v = (if ((set >>> ((nI k) &&& 31)) &&& 1) = 1 then r_oddsGo x ll set n (k + 1) (v * (r_chanceOf x ll (nI k))) else r_oddsGo x ll set n (k + 1) v) := rfl
def r_oddsOf (x : MT) (ll : Int32) (set : Int32) : Int64 := r_oddsGo x ll set 30 0 1
set_option maxHeartbeats 4000000 in
set_option maxRecDepth 100000 in
theorem c_X6_oddsOf (l : Launch) (G : GG) (M : Nat → Nat) (x : MT) (ll : Int32) (set : Int32)  (hI : mI (mS x)) (hO : mO (mS x)) (hMW : mW (mS x)) (hN : mN M) (iL : ib 0 7 ll) (hW : wfL (mS x) ll.toNatClampNeg) : Met l yX6_oddsOf wsX6_oddsOf { frames := 6, cells := 0, slots := 0, locals := 150 } (roP G [.ref (M 0), .int ll, .int set] (fun H => MAt G M x H)) (wrQ (some (.long ((r_oddsOf x ll set)))) (fun H => MAt G M x H) (m3 M)) 0 0 (m3 M) := by
  refine Met.ofW (cc := cX6_oddsOf) (maxL := 6) (ret := (some .long)) (by decide) rfl ?_
  intro p e s m args below meth c s₁ Bd hml hv
  obtain ⟨rfl, hK, hB⟩ := hv
  have hx := Bd.exec
  have hb := Bd.bytes
  have hr := Bd.returns
  have hts := atoms_spec (ws := wsX6_oddsOf) Bd.pre
  have hown : s.vm.findClass RX6 = some m.cls := findClass_of_methodNamed Bd.named
  have hlocks := Bd.notSynchronized
  have hC : CallFix p m c cX6_oddsOf 6 s _ wsX6_oddsOf RX6 := ⟨hx, hb, hml, hown, hts⟩
  have hl := lv_entry ([.ref (M 0), .int ll, .int set]) (n := 6) (Nat.le_of_ble_eq_true rfl)
  rw [lg_entry_eq]
  generalize (lg_sl ([.ref (M 0), .int ll, .int set]) ++ List.replicate (6 - (lg_sl ([.ref (M 0), .int ll, .int set])).length) Slot.unset).toArray = ls at hl ⊢
  have hl : lv_has ls 6 [(0, .ref (M 0)), (1, .int ll), (2, .int set)] := hl
  have hS : wS (m3 M) s.heap s.heap [] := wS.rf
  have f_s := hB
  have hZ := trivial
  refine lv_lconst (v := 1) hx hb dX6_oddsOf_0 (by decide) ?_
  refine lv_lstore_n (lv' := [(3, .long 1), (0, .ref (M 0)), (1, .int ll), (2, .int set)]) hx hb dX6_oddsOf_1 rfl hl (by decide) rfl (fun ls hl => ?_)
  refine lv_iconst (v := 0) hx hb dX6_oddsOf_2 (by decide) ?_
  refine lv_istore (lv' := [(5, .int 0), (3, .long 1), (0, .ref (M 0)), (1, .int ll), (2, .int set)]) hx hb dX6_oddsOf_3 hl (by decide) rfl (fun ls hl => ?_)
  refine loop_wr (nL := 6) (α := Nat × Int64) (fun a9 => [(0, .ref (M 0)), (1, .int ll), (2, .int set), (3, .long (a9.2)), (5, .int (nI (a9.1)))]) (fun a9 H locs => (a9.1 ≤ 30 ∧ r_oddsGo x ll set (30 - a9.1) a9.1 a9.2 = r_oddsGo x ll set 30 0 1) ∧ (MAt G M x H) ∧ wS (m3 M) s.heap H locs ∧ True) (fun a9 => 30 - a9.1) (0, 1) ⟨⟨(by first | exact Nat.zero_le _ | decide | omega), rfl⟩, f_s, hS, hZ⟩ (lv_sub hl [2, 3, 4, 1, 0] rfl) (fun a9 H locs hI9 ih_k ls hl => ?_)
  obtain ⟨k, v⟩ := a9
  obtain ⟨hI9, f_s, hS, hZ⟩ := hI9
  have f_s : MAt G M x H := f_s
  obtain ⟨hk_k, hV⟩ : k ≤ 30 ∧ r_oddsGo x ll set (30 - k) k v = r_oddsGo x ll set 30 0 1 := hI9
  have hl : lv_has ls 6 [(0, .ref (M 0)), (1, .int ll), (2, .int set), (3, .long v), (5, .int (nI k))] := hl
  refine lv_iload hx hb dX6_oddsOf_5 (lv_at hl 4 rfl) ?_
  refine lv_bipush (v := 30) hx hb dX6_oddsOf_7 (by decide +kernel) ?_
  refine lv_icmp_ge (tgt := 42) hx hb dX6_oddsOf_9 (by decide) (fun h_1 => ?_) (fun h_1 => ?_)
  · have hN_k : k = 30 := ge_ex (N := 30) rfl h_1 hk_k (by omega)
    subst hN_k
    rw [Nat.sub_self] at hV
    refine lv_lload_n hx hb dX6_oddsOf_42 rfl (lv_at hl 3 rfl) ?_
    have hE9 : r_oddsOf x ll set = v := (by (try unfold r_oddsOf); rw [← hV, r_oddsGo_0]; first | done | rfl)
    exact wr_lret hx hb hr hlocks dX6_oddsOf_43 hS (by first | exact f_s | (rw [hE9]; exact f_s)) (by rw [hE9]; first | done | rfl)
  · have hlt_k : k < 30 := ge_in (N := 30) rfl h_1 hk_k (by omega)
    obtain ⟨n9, hn9⟩ : ∃ n9, 30 - k = n9 + 1 := ⟨30 - k - 1, by omega⟩
    rw [hn9] at hV
    refine lv_iload_n hx hb dX6_oddsOf_12 rfl (lv_at hl 2 rfl) ?_
    refine lv_iload hx hb dX6_oddsOf_13 (lv_at hl 4 rfl) ?_
    refine lv_ishr hx hb dX6_oddsOf_15 ?_
    refine lv_iconst (v := 1) hx hb dX6_oddsOf_16 (by decide) ?_
    refine lv_iand hx hb dX6_oddsOf_17 ?_
    refine lv_iconst (v := 1) hx hb dX6_oddsOf_18 (by decide) ?_
    refine lv_icmp_ne (tgt := 34) hx hb dX6_oddsOf_19 (by decide) (fun h_2 => ?_) (fun h_2 => ?_)
    · refine lv_lload_n hx hb dX6_oddsOf_34 rfl (lv_at hl 3 rfl) ?_
      refine lv_lstore_n (lv' := [(3, .long v), (0, .ref (M 0)), (1, .int ll), (2, .int set), (5, .int (nI k))]) hx hb dX6_oddsOf_35 rfl hl (by decide) rfl (fun ls hl => ?_)
      refine lv_iinc (v := (nI k) + 1) (lv' := [(5, .int ((nI k) + 1)), (3, .long v), (0, .ref (M 0)), (1, .int ll), (2, .int set)]) hx hb dX6_oddsOf_36 hl (k := 4) rfl rfl (by decide) rfl (fun ls hl => ?_)
      refine lv_goto (tgt := 5) hx hb dX6_oddsOf_39 (by decide) ?_
      have hE : r_oddsGo x ll set n9 (k + 1) v = r_oddsGo x ll set 30 0 1 := (by rw [← hV, r_oddsGo_s]; (repeat rw [if_neg h_2]); first | done | rfl)
      refine ih_k ((k + 1, v)) _ _ ⟨⟨(show k + 1 ≤ 30 by omega), (by show r_oddsGo x ll set (30 - (k + 1)) (k + 1) v = _; rw [show 30 - (k + 1) = n9 by omega]; exact hE)⟩, f_s, hS, hZ⟩ (show 30 - (k + 1) < 30 - k by omega) ls ?_
      show lv_has ls 6 [(0, .ref (M 0)), (1, .int ll), (2, .int set), (3, .long v), (5, .int (nI (k + 1)))]
      rw [nI_succ]
      exact lv_sub hl [2, 3, 4, 1, 0] rfl
    · refine lv_lload_n hx hb dX6_oddsOf_22 rfl (lv_at hl 3 rfl) ?_
      refine lv_aload_n hx hb dX6_oddsOf_23 rfl (lv_at hl 0 rfl) ?_
      refine lv_iload_n hx hb dX6_oddsOf_24 rfl (lv_at hl 1 rfl) ?_
      refine lv_iload hx hb dX6_oddsOf_25 (lv_at hl 4 rfl) ?_
      refine wr_call (va_runV (As := [.int ll, .int (nI k)]) (rest := [.long v]) hC (c_X6_chanceOf l G M x ll (nI k) hI hO hMW hN (ib.weak iL (by decide) (by decide)) (ib.weak (ib_lt (n := 30) (by omega) (by decide)) (by decide) (by decide)) hW) (cwV 2 hts gX6_oddsOf_X6_chanceOf rfl rfl rfl kd_X6_chanceOf ⟨Nat.le_of_ble_eq_true rfl, Nat.le_of_ble_eq_true rfl⟩) (ro_preV hK f_s.1 rfl f_s) rfl rfl hl.1 rfl (lv_room (Nat.le_of_ble_eq_true rfl)) dX6_oddsOf_27 ⟨Nat.zero_le _, Nat.zero_le _⟩) hS (fun q h => h) (fun H locs f_n hq hS => ?_)
      have f_s := f_n
      refine lv_lmul hx hb dX6_oddsOf_30 ?_
      refine lv_goto (tgt := 35) hx hb dX6_oddsOf_31 (by decide) ?_
      refine lv_lstore_n (lv' := [(3, .long (v * (r_chanceOf x ll (nI k)))), (0, .ref (M 0)), (1, .int ll), (2, .int set), (5, .int (nI k))]) hx hb dX6_oddsOf_35 rfl hl (by decide) rfl (fun ls hl => ?_)
      refine lv_iinc (v := (nI k) + 1) (lv' := [(5, .int ((nI k) + 1)), (3, .long (v * (r_chanceOf x ll (nI k)))), (0, .ref (M 0)), (1, .int ll), (2, .int set)]) hx hb dX6_oddsOf_36 hl (k := 4) rfl rfl (by decide) rfl (fun ls hl => ?_)
      refine lv_goto (tgt := 5) hx hb dX6_oddsOf_39 (by decide) ?_
      have hE : r_oddsGo x ll set n9 (k + 1) (v * (r_chanceOf x ll (nI k))) = r_oddsGo x ll set 30 0 1 := (by rw [← hV, r_oddsGo_s]; (repeat rw [if_pos h_2]); first | done | rfl)
      refine ih_k ((k + 1, v * (r_chanceOf x ll (nI k)))) _ _ ⟨⟨(show k + 1 ≤ 30 by omega), (by show r_oddsGo x ll set (30 - (k + 1)) (k + 1) (v * (r_chanceOf x ll (nI k))) = _; rw [show 30 - (k + 1) = n9 by omega]; exact hE)⟩, f_s, hS, hZ⟩ (show 30 - (k + 1) < 30 - k by omega) ls ?_
      show lv_has ls 6 [(0, .ref (M 0)), (1, .int ll), (2, .int set), (3, .long (v * (r_chanceOf x ll (nI k)))), (5, .int (nI (k + 1)))]
      rw [nI_succ]
      exact lv_sub hl [2, 3, 4, 1, 0] rfl
theorem i_X6_rightOf_X6 : ∀ w ∈ wsX60, w ∈ wsX6_rightOf := fun _ h => List.mem_cons_of_mem _ (List.mem_append_right _ h)
theorem k_X6_rightOf_fieldLink_9 : Cond.fieldLink RX6 9 "SameWaterModel" "s" "[I" ∈ wsX6_rightOf := by decide +kernel
def r_rightGo (x : MT) (ll child : Int32) : Nat → Nat → Int32 → Int32
  | 0, _, cn => cn
  | n + 1, k, cn => if child = (-1) then r_rightGo x ll child n (k + 1) (cn + (b2i (if (r_isAsTold x ll (nI k)) = true then true else false))) else if ((mS x) (282 + (nI k)).toNatClampNeg) = child then r_rightGo x ll child n (k + 1) (cn + (b2i (if (r_isAsTold x ll (nI k)) = true then true else false))) else r_rightGo x ll child n (k + 1) (cn + 0)
theorem r_rightGo_0 (x : MT) (ll child : Int32) (k : Nat) (cn : Int32) : r_rightGo x ll child 0 k cn = (cn) := rfl
theorem r_rightGo_s (x : MT) (ll child : Int32) (n k : Nat) (cn : Int32) : r_rightGo x ll child (n + 1) k cn = (if child = (-1) then r_rightGo x ll child n (k + 1) (cn + (b2i (if (r_isAsTold x ll (nI k)) = true then true else false))) else if ((mS x) (282 + (nI k)).toNatClampNeg) = child then r_rightGo x ll child n (k + 1) (cn + (b2i (if (r_isAsTold x ll (nI k)) = true then true else false))) else r_rightGo x ll child n (k + 1) (cn + 0)) := rfl
def r_rightOf (x : MT) (ll : Int32) (child : Int32) : Int32 := r_rightGo x ll child (((mS x) (2 : Int32).toNatClampNeg).toNatClampNeg) 0 0
set_option maxHeartbeats 4000000 in
set_option maxRecDepth 100000 in
theorem c_X6_rightOf (l : Launch) (G : GG) (M : Nat → Nat) (x : MT) (ll : Int32) (child : Int32)  (hI : mI (mS x)) (hO : mO (mS x)) (hMW : mW (mS x)) (hN : mN M) (iL : ib 0 7 ll) (hW : wfL (mS x) ll.toNatClampNeg) : Met l yX6_rightOf wsX6_rightOf { frames := 5, cells := 0, slots := 0, locals := 128 } (roP G [.ref (M 0), .int ll, .int child] (fun H => MAt G M x H)) (wrQ (some (.int ((r_rightOf x ll child)))) (fun H => MAt G M x H) (m3 M)) 0 0 (m3 M) := by
  refine Met.ofW (cc := cX6_rightOf) (maxL := 5) (ret := (some .int)) (by decide) rfl ?_
  intro p e s m args below meth c s₁ Bd hml hv
  obtain ⟨rfl, hK, hB⟩ := hv
  have hx := Bd.exec
  have hb := Bd.bytes
  have hr := Bd.returns
  have hts := atoms_spec (ws := wsX6_rightOf) Bd.pre
  have hown : s.vm.findClass RX6 = some m.cls := findClass_of_methodNamed Bd.named
  have hlocks := Bd.notSynchronized
  have hC : CallFix p m c cX6_rightOf 5 s _ wsX6_rightOf RX6 := ⟨hx, hb, hml, hown, hts⟩
  have hl := lv_entry ([.ref (M 0), .int ll, .int child]) (n := 5) (Nat.le_of_ble_eq_true rfl)
  rw [lg_entry_eq]
  generalize (lg_sl ([.ref (M 0), .int ll, .int child]) ++ List.replicate (5 - (lg_sl ([.ref (M 0), .int ll, .int child])).length) Slot.unset).toArray = ls at hl ⊢
  have hl : lv_has ls 5 [(0, .ref (M 0)), (1, .int ll), (2, .int child)] := hl
  have hS : wS (m3 M) s.heap s.heap [] := wS.rf
  have f_s := hB
  have hZ := trivial
  have hC2 : ib 0 40 ((mS x) (2 : Int32).toNatClampNeg) := hI 2 (2, 2, 0, 40) (by decide) (Nat.le_refl _) (Nat.le_refl _)
  have hD2 : ((mS x) (2 : Int32).toNatClampNeg).toNatClampNeg ≤ 40 := by have := (hC2.clamp (by decide)).2; omega
  refine lv_iconst (v := 0) hx hb dX6_rightOf_0 (by decide) ?_
  refine lv_istore_n (lv' := [(3, .int 0), (0, .ref (M 0)), (1, .int ll), (2, .int child)]) hx hb dX6_rightOf_1 rfl hl (by decide) rfl (fun ls hl => ?_)
  refine lv_iconst (v := 0) hx hb dX6_rightOf_2 (by decide) ?_
  refine lv_istore (lv' := [(4, .int 0), (3, .int 0), (0, .ref (M 0)), (1, .int ll), (2, .int child)]) hx hb dX6_rightOf_3 hl (by decide) rfl (fun ls hl => ?_)
  refine loop_wr (nL := 5) (α := Nat × Int32) (fun a9 => [(0, .ref (M 0)), (1, .int ll), (2, .int child), (3, .int (a9.2)), (4, .int (nI (a9.1)))]) (fun a9 H locs => (a9.1 ≤ ((mS x) (2 : Int32).toNatClampNeg).toNatClampNeg ∧ r_rightGo x ll child ((((mS x) (2 : Int32).toNatClampNeg).toNatClampNeg) - a9.1) a9.1 a9.2 = r_rightGo x ll child (((mS x) (2 : Int32).toNatClampNeg).toNatClampNeg) 0 0) ∧ (MAt G M x H) ∧ wS (m3 M) s.heap H locs ∧ True) (fun a9 => ((mS x) (2 : Int32).toNatClampNeg).toNatClampNeg - a9.1) (0, 0) ⟨⟨(by first | exact Nat.zero_le _ | decide | omega), rfl⟩, f_s, hS, hZ⟩ (lv_sub hl [2, 3, 4, 1, 0] rfl) (fun a9 H locs hI9 ih_k ls hl => ?_)
  obtain ⟨k, cn⟩ := a9
  obtain ⟨hI9, f_s, hS, hZ⟩ := hI9
  have f_s : MAt G M x H := f_s
  obtain ⟨hk_k, hV⟩ : k ≤ ((mS x) (2 : Int32).toNatClampNeg).toNatClampNeg ∧ r_rightGo x ll child ((((mS x) (2 : Int32).toNatClampNeg).toNatClampNeg) - k) k cn = r_rightGo x ll child (((mS x) (2 : Int32).toNatClampNeg).toNatClampNeg) 0 0 := hI9
  have hl : lv_has ls 5 [(0, .ref (M 0)), (1, .int ll), (2, .int child), (3, .int cn), (4, .int (nI k))] := hl
  refine lv_iload hx hb dX6_rightOf_5 (lv_at hl 4 rfl) ?_
  refine lv_aload_n hx hb dX6_rightOf_7 rfl (lv_at hl 0 rfl) ?_
  refine r_get (C := RX6) (T := TX6) (N := 18) hx hb hts i_X6_rightOf_X6 hown hK f_s.1 rfl 1 (by decide) k_X6_rightOf_fieldLink_9 rfl rfl dX6_rightOf_8 ?_
  refine lv_iconst (v := 2) hx hb dX6_rightOf_11 (by decide) ?_
  refine r_iald hx hb hK f_s.2.1 (vp_ib (lo := 2) (hi := 2) (ib_nI (n := 2) (by decide)) (by decide) (by decide)) dX6_rightOf_12 ?_
  refine lv_icmp_ge (tgt := 60) hx hb dX6_rightOf_13 (by decide) (fun h_1 => ?_) (fun h_1 => ?_)
  · have hN_k : k = ((mS x) (2 : Int32).toNatClampNeg).toNatClampNeg := ge_ex (N := ((mS x) (2 : Int32).toNatClampNeg).toNatClampNeg) (cnt_beq hC2 (by decide)) h_1 hk_k (by omega)
    subst hN_k
    rw [Nat.sub_self] at hV
    refine lv_iload_n hx hb dX6_rightOf_60 rfl (lv_at hl 3 rfl) ?_
    have hE9 : r_rightOf x ll child = cn := (by (try unfold r_rightOf); rw [← hV, r_rightGo_0]; first | done | rfl)
    exact wr_iret hx hb hr hlocks dX6_rightOf_61 hS (by first | exact f_s | (rw [hE9]; exact f_s)) (by rw [hE9]; first | done | rfl)
  · have hlt_k : k < ((mS x) (2 : Int32).toNatClampNeg).toNatClampNeg := ge_in (N := ((mS x) (2 : Int32).toNatClampNeg).toNatClampNeg) (cnt_beq hC2 (by decide)) h_1 hk_k (by omega)
    obtain ⟨n9, hn9⟩ : ∃ n9, (((mS x) (2 : Int32).toNatClampNeg).toNatClampNeg) - k = n9 + 1 := ⟨(((mS x) (2 : Int32).toNatClampNeg).toNatClampNeg) - k - 1, by omega⟩
    rw [hn9] at hV
    refine lv_iload_n hx hb dX6_rightOf_16 rfl (lv_at hl 3 rfl) ?_
    refine lv_iload_n hx hb dX6_rightOf_17 rfl (lv_at hl 2 rfl) ?_
    refine lv_iconst (v := (-1)) hx hb dX6_rightOf_18 (by decide) ?_
    refine lv_icmp_eq (tgt := 37) hx hb dX6_rightOf_19 (by decide) (fun h_2 => ?_) (fun h_2 => ?_)
    · refine lv_aload_n hx hb dX6_rightOf_37 rfl (lv_at hl 0 rfl) ?_
      refine lv_iload_n hx hb dX6_rightOf_38 rfl (lv_at hl 1 rfl) ?_
      refine lv_iload hx hb dX6_rightOf_39 (lv_at hl 4 rfl) ?_
      refine wr_call (va_runV (As := [.int ll, .int (nI k)]) (rest := [.int cn]) hC (c_X6_isAsTold l G M x ll (nI k) hI hO hMW hN (ib.weak iL (by decide) (by decide)) (ib.weak (ib_ltc hC2 (by omega) (by decide)) (by decide) (by decide)) hW) (cwV 2 hts gX6_rightOf_X6_isAsTold rfl rfl rfl kd_X6_isAsTold ⟨Nat.le_of_ble_eq_true rfl, Nat.le_of_ble_eq_true rfl⟩) (ro_preV hK f_s.1 rfl f_s) rfl rfl hl.1 rfl (lv_room (Nat.le_of_ble_eq_true rfl)) dX6_rightOf_41 ⟨Nat.zero_le _, Nat.zero_le _⟩) hS (fun q h => h) (fun H locs f_n hq hS => ?_)
      have f_s := f_n
      refine join_wr (nL := 5) 52 [(0, .ref (M 0)), (1, .int ll), (2, .int child), (3, .int cn), (4, .int (nI k))] [.int (b2i (if (r_isAsTold x ll (nI k)) = true then true else false)), .int cn] (fun H locs => (MAt G M x H) ∧ wS (m3 M) s.heap H locs ∧ True) (fun H locs hI ls hl => ?_) (fun J_3 => ?_)
      · obtain ⟨f_s, hS, hZ⟩ := hI
        refine lv_iadd hx hb dX6_rightOf_52 ?_
        refine lv_istore_n (lv' := [(3, .int (cn + (b2i (if (r_isAsTold x ll (nI k)) = true then true else false)))), (0, .ref (M 0)), (1, .int ll), (2, .int child), (4, .int (nI k))]) hx hb dX6_rightOf_53 rfl hl (by decide) rfl (fun ls hl => ?_)
        refine lv_iinc (v := (nI k) + 1) (lv' := [(4, .int ((nI k) + 1)), (3, .int (cn + (b2i (if (r_isAsTold x ll (nI k)) = true then true else false)))), (0, .ref (M 0)), (1, .int ll), (2, .int child)]) hx hb dX6_rightOf_54 hl (k := 4) rfl rfl (by decide) rfl (fun ls hl => ?_)
        refine lv_goto (tgt := 5) hx hb dX6_rightOf_57 (by decide) ?_
        have hE : r_rightGo x ll child n9 (k + 1) (cn + (b2i (if (r_isAsTold x ll (nI k)) = true then true else false))) = r_rightGo x ll child (((mS x) (2 : Int32).toNatClampNeg).toNatClampNeg) 0 0 := (by rw [← hV, r_rightGo_s]; (repeat rw [if_pos h_2]); first | done | rfl)
        refine ih_k ((k + 1, cn + (b2i (if (r_isAsTold x ll (nI k)) = true then true else false)))) _ _ ⟨⟨(show k + 1 ≤ ((mS x) (2 : Int32).toNatClampNeg).toNatClampNeg by omega), (by show r_rightGo x ll child ((((mS x) (2 : Int32).toNatClampNeg).toNatClampNeg) - (k + 1)) (k + 1) (cn + (b2i (if (r_isAsTold x ll (nI k)) = true then true else false))) = _; rw [show (((mS x) (2 : Int32).toNatClampNeg).toNatClampNeg) - (k + 1) = n9 by omega]; exact hE)⟩, f_s, hS, hZ⟩ (show (((mS x) (2 : Int32).toNatClampNeg).toNatClampNeg) - (k + 1) < (((mS x) (2 : Int32).toNatClampNeg).toNatClampNeg) - k by omega) ls ?_
        show lv_has ls 5 [(0, .ref (M 0)), (1, .int ll), (2, .int child), (3, .int (cn + (b2i (if (r_isAsTold x ll (nI k)) = true then true else false)))), (4, .int (nI (k + 1)))]
        rw [nI_succ]
        exact lv_sub hl [2, 3, 4, 1, 0] rfl
      · refine bz_eq (tgt := 51) hx hb dX6_rightOf_44 (by decide) (fun h_4 => ?_) (fun h_4 => ?_)
        · refine lv_iconst (v := 0) hx hb dX6_rightOf_51 (by decide) ?_
          have hJ := J_3; (repeat rw [if_neg h_4] at hJ)
          first | exact hJ _ _ ⟨f_s, hS, hZ⟩ ls (lv_sub hl [0, 1, 2, 3, 4] rfl) | ((repeat rw [if_neg h_4] at hl); (repeat rw [if_neg h_4]); exact hJ _ _ ⟨f_s, hS, hZ⟩ ls (lv_sub hl [0, 1, 2, 3, 4] rfl))
        · refine lv_iconst (v := 1) hx hb dX6_rightOf_47 (by decide) ?_
          refine lv_goto (tgt := 52) hx hb dX6_rightOf_48 (by decide) ?_
          have hJ := J_3; (repeat rw [if_pos h_4] at hJ)
          first | exact hJ _ _ ⟨f_s, hS, hZ⟩ ls (lv_sub hl [0, 1, 2, 3, 4] rfl) | ((repeat rw [if_pos h_4] at hl); (repeat rw [if_pos h_4]); exact hJ _ _ ⟨f_s, hS, hZ⟩ ls (lv_sub hl [0, 1, 2, 3, 4] rfl))
    · refine lv_aload_n hx hb dX6_rightOf_22 rfl (lv_at hl 0 rfl) ?_
      refine r_get (C := RX6) (T := TX6) (N := 18) hx hb hts i_X6_rightOf_X6 hown hK f_s.1 rfl 1 (by decide) k_X6_rightOf_fieldLink_9 rfl rfl dX6_rightOf_23 ?_
      refine lv_sipush (v := 282) hx hb dX6_rightOf_26 (by decide +kernel) ?_
      refine lv_iload hx hb dX6_rightOf_29 (lv_at hl 4 rfl) ?_
      refine lv_iadd hx hb dX6_rightOf_31 ?_
      refine r_iald hx hb hK f_s.2.1 (vp_ib (lo := 282) (hi := 321) (ib_add (ib_nI (n := 282) (by decide)) (ib_ltc hC2 (by omega) (by decide)) (by decide) (by decide)) (by decide) (by decide)) dX6_rightOf_32 ?_
      refine lv_iload_n hx hb dX6_rightOf_33 rfl (lv_at hl 2 rfl) ?_
      refine lv_icmp_ne (tgt := 51) hx hb dX6_rightOf_34 (by decide) (fun h_5 => ?_) (fun h_5 => ?_)
      · refine lv_iconst (v := 0) hx hb dX6_rightOf_51 (by decide) ?_
        refine lv_iadd hx hb dX6_rightOf_52 ?_
        refine lv_istore_n (lv' := [(3, .int (cn + 0)), (0, .ref (M 0)), (1, .int ll), (2, .int child), (4, .int (nI k))]) hx hb dX6_rightOf_53 rfl hl (by decide) rfl (fun ls hl => ?_)
        refine lv_iinc (v := (nI k) + 1) (lv' := [(4, .int ((nI k) + 1)), (3, .int (cn + 0)), (0, .ref (M 0)), (1, .int ll), (2, .int child)]) hx hb dX6_rightOf_54 hl (k := 4) rfl rfl (by decide) rfl (fun ls hl => ?_)
        refine lv_goto (tgt := 5) hx hb dX6_rightOf_57 (by decide) ?_
        have hE : r_rightGo x ll child n9 (k + 1) (cn + 0) = r_rightGo x ll child (((mS x) (2 : Int32).toNatClampNeg).toNatClampNeg) 0 0 := (by rw [← hV, r_rightGo_s]; (repeat rw [if_neg h_2]); (repeat rw [if_neg h_5]); first | done | rfl)
        refine ih_k ((k + 1, cn + 0)) _ _ ⟨⟨(show k + 1 ≤ ((mS x) (2 : Int32).toNatClampNeg).toNatClampNeg by omega), (by show r_rightGo x ll child ((((mS x) (2 : Int32).toNatClampNeg).toNatClampNeg) - (k + 1)) (k + 1) (cn + 0) = _; rw [show (((mS x) (2 : Int32).toNatClampNeg).toNatClampNeg) - (k + 1) = n9 by omega]; exact hE)⟩, f_s, hS, hZ⟩ (show (((mS x) (2 : Int32).toNatClampNeg).toNatClampNeg) - (k + 1) < (((mS x) (2 : Int32).toNatClampNeg).toNatClampNeg) - k by omega) ls ?_
        show lv_has ls 5 [(0, .ref (M 0)), (1, .int ll), (2, .int child), (3, .int (cn + 0)), (4, .int (nI (k + 1)))]
        rw [nI_succ]
        exact lv_sub hl [2, 3, 4, 1, 0] rfl
      · refine lv_aload_n hx hb dX6_rightOf_37 rfl (lv_at hl 0 rfl) ?_
        refine lv_iload_n hx hb dX6_rightOf_38 rfl (lv_at hl 1 rfl) ?_
        refine lv_iload hx hb dX6_rightOf_39 (lv_at hl 4 rfl) ?_
        refine wr_call (va_runV (As := [.int ll, .int (nI k)]) (rest := [.int cn]) hC (c_X6_isAsTold l G M x ll (nI k) hI hO hMW hN (ib.weak iL (by decide) (by decide)) (ib.weak (ib_ltc hC2 (by omega) (by decide)) (by decide) (by decide)) hW) (cwV 2 hts gX6_rightOf_X6_isAsTold rfl rfl rfl kd_X6_isAsTold ⟨Nat.le_of_ble_eq_true rfl, Nat.le_of_ble_eq_true rfl⟩) (ro_preV hK f_s.1 rfl f_s) rfl rfl hl.1 rfl (lv_room (Nat.le_of_ble_eq_true rfl)) dX6_rightOf_41 ⟨Nat.zero_le _, Nat.zero_le _⟩) hS (fun q h => h) (fun H locs f_n hq hS => ?_)
        have f_s := f_n
        refine join_wr (nL := 5) 52 [(0, .ref (M 0)), (1, .int ll), (2, .int child), (3, .int cn), (4, .int (nI k))] [.int (b2i (if (r_isAsTold x ll (nI k)) = true then true else false)), .int cn] (fun H locs => (MAt G M x H) ∧ wS (m3 M) s.heap H locs ∧ True) (fun H locs hI ls hl => ?_) (fun J_6 => ?_)
        · obtain ⟨f_s, hS, hZ⟩ := hI
          refine lv_iadd hx hb dX6_rightOf_52 ?_
          refine lv_istore_n (lv' := [(3, .int (cn + (b2i (if (r_isAsTold x ll (nI k)) = true then true else false)))), (0, .ref (M 0)), (1, .int ll), (2, .int child), (4, .int (nI k))]) hx hb dX6_rightOf_53 rfl hl (by decide) rfl (fun ls hl => ?_)
          refine lv_iinc (v := (nI k) + 1) (lv' := [(4, .int ((nI k) + 1)), (3, .int (cn + (b2i (if (r_isAsTold x ll (nI k)) = true then true else false)))), (0, .ref (M 0)), (1, .int ll), (2, .int child)]) hx hb dX6_rightOf_54 hl (k := 4) rfl rfl (by decide) rfl (fun ls hl => ?_)
          refine lv_goto (tgt := 5) hx hb dX6_rightOf_57 (by decide) ?_
          have hE : r_rightGo x ll child n9 (k + 1) (cn + (b2i (if (r_isAsTold x ll (nI k)) = true then true else false))) = r_rightGo x ll child (((mS x) (2 : Int32).toNatClampNeg).toNatClampNeg) 0 0 := (by rw [← hV, r_rightGo_s]; (repeat rw [if_neg h_2]); (repeat rw [if_pos h_5]); first | done | rfl)
          refine ih_k ((k + 1, cn + (b2i (if (r_isAsTold x ll (nI k)) = true then true else false)))) _ _ ⟨⟨(show k + 1 ≤ ((mS x) (2 : Int32).toNatClampNeg).toNatClampNeg by omega), (by show r_rightGo x ll child ((((mS x) (2 : Int32).toNatClampNeg).toNatClampNeg) - (k + 1)) (k + 1) (cn + (b2i (if (r_isAsTold x ll (nI k)) = true then true else false))) = _; rw [show (((mS x) (2 : Int32).toNatClampNeg).toNatClampNeg) - (k + 1) = n9 by omega]; exact hE)⟩, f_s, hS, hZ⟩ (show (((mS x) (2 : Int32).toNatClampNeg).toNatClampNeg) - (k + 1) < (((mS x) (2 : Int32).toNatClampNeg).toNatClampNeg) - k by omega) ls ?_
          show lv_has ls 5 [(0, .ref (M 0)), (1, .int ll), (2, .int child), (3, .int (cn + (b2i (if (r_isAsTold x ll (nI k)) = true then true else false)))), (4, .int (nI (k + 1)))]
          rw [nI_succ]
          exact lv_sub hl [2, 3, 4, 1, 0] rfl
        · refine bz_eq (tgt := 51) hx hb dX6_rightOf_44 (by decide) (fun h_7 => ?_) (fun h_7 => ?_)
          · refine lv_iconst (v := 0) hx hb dX6_rightOf_51 (by decide) ?_
            have hJ := J_6; (repeat rw [if_neg h_7] at hJ)
            first | exact hJ _ _ ⟨f_s, hS, hZ⟩ ls (lv_sub hl [0, 1, 2, 3, 4] rfl) | ((repeat rw [if_neg h_7] at hl); (repeat rw [if_neg h_7]); exact hJ _ _ ⟨f_s, hS, hZ⟩ ls (lv_sub hl [0, 1, 2, 3, 4] rfl))
          · refine lv_iconst (v := 1) hx hb dX6_rightOf_47 (by decide) ?_
            refine lv_goto (tgt := 52) hx hb dX6_rightOf_48 (by decide) ?_
            have hJ := J_6; (repeat rw [if_pos h_7] at hJ)
            first | exact hJ _ _ ⟨f_s, hS, hZ⟩ ls (lv_sub hl [0, 1, 2, 3, 4] rfl) | ((repeat rw [if_pos h_7] at hl); (repeat rw [if_pos h_7]); exact hJ _ _ ⟨f_s, hS, hZ⟩ ls (lv_sub hl [0, 1, 2, 3, 4] rfl))
theorem i_X6_cannot_X6 : ∀ w ∈ wsX60, w ∈ wsX6_cannot := fun _ h => List.mem_cons_of_mem _ (List.mem_append_right _ h)
theorem k_X6_cannot_fieldLink_9 : Cond.fieldLink RX6 9 "SameWaterModel" "s" "[I" ∈ wsX6_cannot := by decide +kernel
def r_cannotGo (x : MT) (law : Int32) : Nat → Nat → Int32
  | 0, _ => (-5)
  | n + 1, k => if (lg_cmp (r_chanceOf x law (nI k)) 0) = 0 then nI k else r_cannotGo x law n (k + 1) 
theorem r_cannotGo_0 (x : MT) (law : Int32) (k : Nat)  : r_cannotGo x law 0 k  = ((-5)) := rfl
theorem r_cannotGo_s (x : MT) (law : Int32) (n k : Nat)  : r_cannotGo x law (n + 1) k  = (if (lg_cmp (r_chanceOf x law (nI k)) 0) = 0 then nI k else r_cannotGo x law n (k + 1) ) := rfl
def r_cannot (x : MT) (law : Int32) : Int32 := if (r_isLaw x law) = true then r_cannotGo x law (((mS x) (2 : Int32).toNatClampNeg).toNatClampNeg) 0  else (-1)
set_option maxHeartbeats 4000000 in
set_option maxRecDepth 100000 in
theorem c_X6_cannot (l : Launch) (G : GG) (M : Nat → Nat) (x : MT) (law : Int32)  (hI : mI (mS x)) (hO : mO (mS x)) (hMW : mW (mS x)) (hN : mN M) : Met l yX6_cannot wsX6_cannot { frames := 6, cells := 0, slots := 0, locals := 150 } (roP G [.ref (M 0), .int law] (fun H => MAt G M x H)) (wrQ (some (.int ((r_cannot x law)))) (fun H => MAt G M x H) (m3 M)) 0 0 (m3 M) := by
  refine Met.ofW (cc := cX6_cannot) (maxL := 3) (ret := (some .int)) (by decide) rfl ?_
  intro p e s m args below meth c s₁ Bd hml hv
  obtain ⟨rfl, hK, hB⟩ := hv
  have hx := Bd.exec
  have hb := Bd.bytes
  have hr := Bd.returns
  have hts := atoms_spec (ws := wsX6_cannot) Bd.pre
  have hown : s.vm.findClass RX6 = some m.cls := findClass_of_methodNamed Bd.named
  have hlocks := Bd.notSynchronized
  have hC : CallFix p m c cX6_cannot 3 s _ wsX6_cannot RX6 := ⟨hx, hb, hml, hown, hts⟩
  have hl := lv_entry ([.ref (M 0), .int law]) (n := 3) (Nat.le_of_ble_eq_true rfl)
  rw [lg_entry_eq]
  generalize (lg_sl ([.ref (M 0), .int law]) ++ List.replicate (3 - (lg_sl ([.ref (M 0), .int law])).length) Slot.unset).toArray = ls at hl ⊢
  have hl : lv_has ls 3 [(0, .ref (M 0)), (1, .int law)] := hl
  have hS : wS (m3 M) s.heap s.heap [] := wS.rf
  have f_s := hB
  have hZ := trivial
  have hC2 : ib 0 40 ((mS x) (2 : Int32).toNatClampNeg) := hI 2 (2, 2, 0, 40) (by decide) (Nat.le_refl _) (Nat.le_refl _)
  have hD2 : ((mS x) (2 : Int32).toNatClampNeg).toNatClampNeg ≤ 40 := by have := (hC2.clamp (by decide)).2; omega
  refine lv_aload_n hx hb dX6_cannot_0 rfl (lv_at hl 0 rfl) ?_
  refine lv_iload_n hx hb dX6_cannot_1 rfl (lv_at hl 1 rfl) ?_
  refine ro_call (va_runV (As := [.int law]) (rest := []) hC (c_X6_isLaw l G M x law) (cwV 1 hts gX6_cannot_X6_isLaw rfl rfl rfl kd_X6_isLaw ⟨Nat.le_of_ble_eq_true rfl, Nat.le_of_ble_eq_true rfl⟩) (ro_preV hK f_s.1 rfl f_s) rfl rfl hl.1 rfl (lv_room (Nat.le_of_ble_eq_true rfl)) dX6_cannot_2 ⟨Nat.zero_le _, Nat.zero_le _⟩) ?_
  refine bz_ne (tgt := 10) hx hb dX6_cannot_5 (by decide) (fun h_1 => ?_) (fun h_1 => ?_)
  · refine lv_iconst (v := 0) hx hb dX6_cannot_10 (by decide) ?_
    refine lv_istore_n (lv' := [(2, .int 0), (0, .ref (M 0)), (1, .int law)]) hx hb dX6_cannot_11 rfl hl (by decide) rfl (fun ls hl => ?_)
    refine loop_wr (nL := 3) (α := Nat) (fun a9 => [(0, .ref (M 0)), (1, .int law), (2, .int (nI a9))]) (fun a9 H locs => (a9 ≤ ((mS x) (2 : Int32).toNatClampNeg).toNatClampNeg ∧ r_cannotGo x law ((((mS x) (2 : Int32).toNatClampNeg).toNatClampNeg) - a9) a9  = r_cannotGo x law (((mS x) (2 : Int32).toNatClampNeg).toNatClampNeg) 0 ) ∧ (MAt G M x H) ∧ wS (m3 M) s.heap H locs ∧ True) (fun a9 => ((mS x) (2 : Int32).toNatClampNeg).toNatClampNeg - a9) 0 ⟨⟨(by first | exact Nat.zero_le _ | decide | omega), rfl⟩, f_s, hS, hZ⟩ (lv_sub hl [1, 2, 0] rfl) (fun a9 H locs hI9 ih_k ls hl => ?_)
    obtain ⟨k, rfl⟩ : ∃ z, z = a9 := ⟨_, rfl⟩
    obtain ⟨hI9, f_s, hS, hZ⟩ := hI9
    have f_s : MAt G M x H := f_s
    obtain ⟨hk_k, hV⟩ : k ≤ ((mS x) (2 : Int32).toNatClampNeg).toNatClampNeg ∧ r_cannotGo x law ((((mS x) (2 : Int32).toNatClampNeg).toNatClampNeg) - k) k  = r_cannotGo x law (((mS x) (2 : Int32).toNatClampNeg).toNatClampNeg) 0  := hI9
    have hl : lv_has ls 3 [(0, .ref (M 0)), (1, .int law), (2, .int (nI k))] := hl
    refine lv_iload_n hx hb dX6_cannot_12 rfl (lv_at hl 2 rfl) ?_
    refine lv_aload_n hx hb dX6_cannot_13 rfl (lv_at hl 0 rfl) ?_
    refine r_get (C := RX6) (T := TX6) (N := 18) hx hb hts i_X6_cannot_X6 hown hK f_s.1 rfl 1 (by decide) k_X6_cannot_fieldLink_9 rfl rfl dX6_cannot_14 ?_
    refine lv_iconst (v := 2) hx hb dX6_cannot_17 (by decide) ?_
    refine r_iald hx hb hK f_s.2.1 (vp_ib (lo := 2) (hi := 2) (ib_nI (n := 2) (by decide)) (by decide) (by decide)) dX6_cannot_18 ?_
    refine lv_icmp_ge (tgt := 41) hx hb dX6_cannot_19 (by decide) (fun h_2 => ?_) (fun h_2 => ?_)
    · have hN_k : k = ((mS x) (2 : Int32).toNatClampNeg).toNatClampNeg := ge_ex (N := ((mS x) (2 : Int32).toNatClampNeg).toNatClampNeg) (cnt_beq hC2 (by decide)) h_2 hk_k (by omega)
      subst hN_k
      rw [Nat.sub_self] at hV
      refine lv_bipush (v := (-5)) hx hb dX6_cannot_41 (by decide +kernel) ?_
      have hE9 : r_cannot x law = (-5) := (by (try unfold r_cannot); (repeat rw [if_pos h_1]); rw [← hV, r_cannotGo_0]; first | done | rfl)
      exact wr_iret hx hb hr hlocks dX6_cannot_43 hS (by first | exact f_s | (rw [hE9]; exact f_s)) (by rw [hE9]; first | done | rfl)
    · have hlt_k : k < ((mS x) (2 : Int32).toNatClampNeg).toNatClampNeg := ge_in (N := ((mS x) (2 : Int32).toNatClampNeg).toNatClampNeg) (cnt_beq hC2 (by decide)) h_2 hk_k (by omega)
      obtain ⟨n9, hn9⟩ : ∃ n9, (((mS x) (2 : Int32).toNatClampNeg).toNatClampNeg) - k = n9 + 1 := ⟨(((mS x) (2 : Int32).toNatClampNeg).toNatClampNeg) - k - 1, by omega⟩
      rw [hn9] at hV
      refine lv_aload_n hx hb dX6_cannot_22 rfl (lv_at hl 0 rfl) ?_
      refine lv_iload_n hx hb dX6_cannot_23 rfl (lv_at hl 1 rfl) ?_
      refine lv_iload_n hx hb dX6_cannot_24 rfl (lv_at hl 2 rfl) ?_
      refine wr_call (va_runV (As := [.int law, .int (nI k)]) (rest := []) hC (c_X6_chanceOf l G M x law (nI k) hI hO hMW hN (ib.weak (isLaw_ib hI h_1) (by decide) (by decide)) (ib.weak (ib_ltc hC2 (by omega) (by decide)) (by decide) (by decide)) (isLaw_wf hI hMW h_1)) (cwV 2 hts gX6_cannot_X6_chanceOf rfl rfl rfl kd_X6_chanceOf ⟨Nat.le_of_ble_eq_true rfl, Nat.le_of_ble_eq_true rfl⟩) (ro_preV hK f_s.1 rfl f_s) rfl rfl hl.1 rfl (lv_room (Nat.le_of_ble_eq_true rfl)) dX6_cannot_25 ⟨Nat.zero_le _, Nat.zero_le _⟩) hS (fun q h => h) (fun H locs f_n hq hS => ?_)
      have f_s := f_n
      refine lv_lconst (v := 0) hx hb dX6_cannot_28 (by decide) ?_
      refine W.lcmp hx hb dX6_cannot_29 ?_
      refine lv_if_ne (tgt := 35) hx hb dX6_cannot_30 (by decide) (fun h_3 => ?_) (fun h_3 => ?_)
      · refine lv_iinc (v := (nI k) + 1) (lv' := [(2, .int ((nI k) + 1)), (0, .ref (M 0)), (1, .int law)]) hx hb dX6_cannot_35 hl (k := 2) rfl rfl (by decide) rfl (fun ls hl => ?_)
        refine lv_goto (tgt := 12) hx hb dX6_cannot_38 (by decide) ?_
        have hE : r_cannotGo x law n9 (k + 1)  = r_cannotGo x law (((mS x) (2 : Int32).toNatClampNeg).toNatClampNeg) 0  := (by rw [← hV, r_cannotGo_s]; (repeat rw [if_neg h_3]); first | done | rfl)
        refine ih_k (k + 1) _ _ ⟨⟨(show k + 1 ≤ ((mS x) (2 : Int32).toNatClampNeg).toNatClampNeg by omega), (by show r_cannotGo x law ((((mS x) (2 : Int32).toNatClampNeg).toNatClampNeg) - (k + 1)) (k + 1)  = _; rw [show (((mS x) (2 : Int32).toNatClampNeg).toNatClampNeg) - (k + 1) = n9 by omega]; exact hE)⟩, f_s, hS, hZ⟩ (show (((mS x) (2 : Int32).toNatClampNeg).toNatClampNeg) - (k + 1) < (((mS x) (2 : Int32).toNatClampNeg).toNatClampNeg) - k by omega) ls ?_
        show lv_has ls 3 [(0, .ref (M 0)), (1, .int law), (2, .int (nI (k + 1)))]
        rw [nI_succ]
        exact lv_sub hl [1, 2, 0] rfl
      · refine lv_iload_n hx hb dX6_cannot_33 rfl (lv_at hl 2 rfl) ?_
        have hE9 : r_cannot x law = nI k := (by (try unfold r_cannot); (repeat rw [if_pos h_1]); rw [← hV, r_cannotGo_s]; (repeat rw [if_neg h_2]); (repeat rw [if_pos h_3]); first | done | rfl)
        exact wr_iret hx hb hr hlocks dX6_cannot_34 hS (by first | exact f_s | (rw [hE9]; exact f_s)) (by rw [hE9]; first | done | rfl)
  · refine lv_iconst (v := (-1)) hx hb dX6_cannot_8 (by decide) ?_
    have hE9 : r_cannot x law = (-1) := (by (try unfold r_cannot); (repeat rw [if_neg h_1]); first | done | rfl)
    exact wr_iret hx hb hr hlocks dX6_cannot_9 hS (by first | exact f_s | (rw [hE9]; exact f_s)) (by rw [hE9]; first | done | rfl)
theorem kd_X6_rightOf : yX6_rightOf.cls = RX6 ∧ yX6_rightOf.cls ≠ "java/lang/invoke/MethodHandle" ∧ yX6_rightOf.cls ≠ "java/lang/invoke/VarHandle" ∧ (parseMethodDescriptor yX6_rightOf.desc).map (fun d => d.parameters.length) = some 2 := by decide +kernel
def r_right (x : MT) (law : Int32) : Int32 := if (r_isLaw x law) = true then r_rightOf x law (-1) else (-1)
set_option maxHeartbeats 4000000 in
set_option maxRecDepth 100000 in
theorem c_X6_right (l : Launch) (G : GG) (M : Nat → Nat) (x : MT) (law : Int32)  (hI : mI (mS x)) (hO : mO (mS x)) (hMW : mW (mS x)) (hN : mN M) : Met l yX6_right wsX6_right { frames := 6, cells := 0, slots := 0, locals := 152 } (roP G [.ref (M 0), .int law] (fun H => MAt G M x H)) (wrQ (some (.int ((r_right x law)))) (fun H => MAt G M x H) (m3 M)) 0 0 (m3 M) := by
  refine Met.ofW (cc := cX6_right) (maxL := 2) (ret := (some .int)) (by decide) rfl ?_
  intro p e s m args below meth c s₁ Bd hml hv
  obtain ⟨rfl, hK, hB⟩ := hv
  have hx := Bd.exec
  have hb := Bd.bytes
  have hr := Bd.returns
  have hts := atoms_spec (ws := wsX6_right) Bd.pre
  have hown : s.vm.findClass RX6 = some m.cls := findClass_of_methodNamed Bd.named
  have hlocks := Bd.notSynchronized
  have hC : CallFix p m c cX6_right 2 s _ wsX6_right RX6 := ⟨hx, hb, hml, hown, hts⟩
  have hl := lv_entry ([.ref (M 0), .int law]) (n := 2) (Nat.le_of_ble_eq_true rfl)
  rw [lg_entry_eq]
  generalize (lg_sl ([.ref (M 0), .int law]) ++ List.replicate (2 - (lg_sl ([.ref (M 0), .int law])).length) Slot.unset).toArray = ls at hl ⊢
  have hl : lv_has ls 2 [(0, .ref (M 0)), (1, .int law)] := hl
  have hS : wS (m3 M) s.heap s.heap [] := wS.rf
  have f_s := hB
  have hZ := trivial
  refine lv_aload_n hx hb dX6_right_0 rfl (lv_at hl 0 rfl) ?_
  refine lv_iload_n hx hb dX6_right_1 rfl (lv_at hl 1 rfl) ?_
  refine ro_call (va_runV (As := [.int law]) (rest := []) hC (c_X6_isLaw l G M x law) (cwV 1 hts gX6_right_X6_isLaw rfl rfl rfl kd_X6_isLaw ⟨Nat.le_of_ble_eq_true rfl, Nat.le_of_ble_eq_true rfl⟩) (ro_preV hK f_s.1 rfl f_s) rfl rfl hl.1 rfl (lv_room (Nat.le_of_ble_eq_true rfl)) dX6_right_2 ⟨Nat.zero_le _, Nat.zero_le _⟩) ?_
  refine bz_eq (tgt := 17) hx hb dX6_right_5 (by decide) (fun h_1 => ?_) (fun h_1 => ?_)
  · refine lv_iconst (v := (-1)) hx hb dX6_right_17 (by decide) ?_
    have hE9 : r_right x law = (-1) := (by (try unfold r_right); (repeat rw [if_neg h_1]); first | done | rfl)
    exact wr_iret hx hb hr hlocks dX6_right_18 hS (by first | exact f_s | (rw [hE9]; exact f_s)) (by rw [hE9]; first | done | rfl)
  · refine lv_aload_n hx hb dX6_right_8 rfl (lv_at hl 0 rfl) ?_
    refine lv_iload_n hx hb dX6_right_9 rfl (lv_at hl 1 rfl) ?_
    refine lv_iconst (v := (-1)) hx hb dX6_right_10 (by decide) ?_
    refine wr_call (va_runV (As := [.int law, .int (-1)]) (rest := []) hC (c_X6_rightOf l G M x law (-1) hI hO hMW hN (ib.weak (isLaw_ib hI h_1) (by decide) (by decide)) (isLaw_wf hI hMW h_1)) (cwV 2 hts gX6_right_X6_rightOf rfl rfl rfl kd_X6_rightOf ⟨Nat.le_of_ble_eq_true rfl, Nat.le_of_ble_eq_true rfl⟩) (ro_preV hK f_s.1 rfl f_s) rfl rfl hl.1 rfl (lv_room (Nat.le_of_ble_eq_true rfl)) dX6_right_11 ⟨Nat.zero_le _, Nat.zero_le _⟩) hS (fun q h => h) (fun H locs f_n hq hS => ?_)
    have f_s := f_n
    refine lv_goto (tgt := 18) hx hb dX6_right_14 (by decide) ?_
    have hE9 : r_right x law = r_rightOf x law (-1) := (by (try unfold r_right); (repeat rw [if_pos h_1]); first | done | rfl)
    exact wr_iret hx hb hr hlocks dX6_right_18 hS (by first | exact f_s | (rw [hE9]; exact f_s)) (by rw [hE9]; first | done | rfl)
def r_count1It_st (set : Int32) (k : Nat) (cn : Int32) : Int32 := cn + ((set >>> ((nI k) &&& 31)) &&& 1)
def r_count1It (set : Int32) (cn0 : Int32) : Nat → Int32
  | 0 => cn0
  | k + 1 => r_count1It_st set k (r_count1It set cn0 k)
def r_count1 (set : Int32) : Int32 := (r_count1It set 0 30)
set_option maxHeartbeats 4000000 in
set_option maxRecDepth 100000 in
theorem c_X6_count1 (l : Launch) (G : GG) (set : Int32)  : Met l yX6_count1 wsX6_count1 { frames := 0, cells := 0, slots := 0, locals := 0 } (roP G [.int set] (fun H => True)) (roQ (some (.int (r_count1 set)))) 0 0 nF := by
  refine Met.ofW (cc := cX6_count1) (maxL := 3) (ret := (some .int)) (by decide) rfl ?_
  intro p e s m args below meth c s₁ Bd hml hv
  obtain ⟨rfl, hK, hB⟩ := hv
  have hx := Bd.exec
  have hb := Bd.bytes
  have hr := Bd.returns
  have hts := atoms_spec (ws := wsX6_count1) Bd.pre
  have hown : s.vm.findClass RX6 = some m.cls := findClass_of_methodNamed Bd.named
  have hlocks := Bd.notSynchronized
  have hC : CallFix p m c cX6_count1 3 s _ wsX6_count1 RX6 := ⟨hx, hb, hml, hown, hts⟩
  have hl := lv_entry ([.int set]) (n := 3) (Nat.le_of_ble_eq_true rfl)
  rw [lg_entry_eq]
  generalize (lg_sl ([.int set]) ++ List.replicate (3 - (lg_sl ([.int set])).length) Slot.unset).toArray = ls at hl ⊢
  have hl : lv_has ls 3 [(0, .int set)] := hl
  refine lv_iconst (v := 0) hx hb dX6_count1_0 (by decide) ?_
  refine lv_istore_n (lv' := [(1, .int 0), (0, .int set)]) hx hb dX6_count1_1 rfl hl (by decide) rfl (fun ls hl => ?_)
  refine lv_iconst (v := 0) hx hb dX6_count1_2 (by decide) ?_
  refine lv_istore_n (lv' := [(2, .int 0), (1, .int 0), (0, .int set)]) hx hb dX6_count1_3 rfl hl (by decide) rfl (fun ls hl => ?_)
  refine loop_at (nL := 3) (fun k : Nat => [(0, .int set), (1, .int (r_count1It set 0 k)), (2, .int (nI k))]) (fun k => k ≤ 30) (fun k => 30 - k) 0 (Nat.zero_le _) (lv_sub hl [2, 1, 0] rfl) (fun k hk_k ih_k ls hl => ?_)
  have hl : lv_has ls 3 [(0, .int set), (1, .int (r_count1It set 0 k)), (2, .int (nI k))] := hl
  refine lv_iload_n hx hb dX6_count1_4 rfl (lv_at hl 2 rfl) ?_
  refine lv_bipush (v := 30) hx hb dX6_count1_5 (by decide +kernel) ?_
  refine lv_icmp_ge (tgt := 24) hx hb dX6_count1_7 (by decide) (fun h_1 => ?_) (fun h_1 => ?_)
  · have hN_k : k = 30 := ge_ex (N := 30) rfl h_1 hk_k (by omega)
    subst hN_k
    refine lv_iload_n hx hb dX6_count1_24 rfl (lv_at hl 1 rfl) ?_
    exact ro_iret hx hb hr hlocks dX6_count1_25 rfl
  · have hlt_k : k < 30 := ge_in (N := 30) rfl h_1 hk_k (by omega)
    refine lv_iload_n hx hb dX6_count1_10 rfl (lv_at hl 1 rfl) ?_
    refine lv_iload_n hx hb dX6_count1_11 rfl (lv_at hl 0 rfl) ?_
    refine lv_iload_n hx hb dX6_count1_12 rfl (lv_at hl 2 rfl) ?_
    refine lv_ishr hx hb dX6_count1_13 ?_
    refine lv_iconst (v := 1) hx hb dX6_count1_14 (by decide) ?_
    refine lv_iand hx hb dX6_count1_15 ?_
    refine lv_iadd hx hb dX6_count1_16 ?_
    refine lv_istore_n (lv' := [(1, .int ((r_count1It set 0 k) + ((set >>> ((nI k) &&& 31)) &&& 1))), (0, .int set), (2, .int (nI k))]) hx hb dX6_count1_17 rfl hl (by decide) rfl (fun ls hl => ?_)
    refine lv_iinc (v := (nI k) + 1) (lv' := [(2, .int ((nI k) + 1)), (1, .int ((r_count1It set 0 k) + ((set >>> ((nI k) &&& 31)) &&& 1))), (0, .int set)]) hx hb dX6_count1_18 hl (k := 2) rfl rfl (by decide) rfl (fun ls hl => ?_)
    refine lv_goto (tgt := 4) hx hb dX6_count1_21 (by decide) ?_
    have hE : (r_count1It set 0 (k + 1)) = (r_count1It set 0 k) + ((set >>> ((nI k) &&& 31)) &&& 1) := (by show r_count1It_st set k (r_count1It set 0 k) = _; (try unfold r_count1It_st); first | done | rfl)
    refine ih_k (k + 1) (show k + 1 ≤ 30 by omega) (by omega) ls ?_
    show lv_has ls 3 [(0, .int set), (1, .int (r_count1It set 0 (k + 1))), (2, .int (nI (k + 1)))]
    rw [nI_succ, hE]
    exact lv_sub hl [2, 1, 0] rfl
theorem i_X6_isFew_X6 : ∀ w ∈ wsX60, w ∈ wsX6_isFew := fun _ h => List.mem_cons_of_mem _ (List.mem_append_right _ h)
theorem k_X6_isFew_fieldLink_9 : Cond.fieldLink RX6 9 "SameWaterModel" "s" "[I" ∈ wsX6_isFew := by decide +kernel
theorem kd_X6_count1 : yX6_count1.cls ≠ "java/lang/invoke/MethodHandle" ∧ yX6_count1.cls ≠ "java/lang/invoke/VarHandle" ∧ (parseMethodDescriptor yX6_count1.desc).map (fun d => d.parameters.length) = some 1 := by decide +kernel
def r_isFew (x : MT) (set : Int32) : Bool := (if (r_in set 0 (((1 : Int32) <<< ((if ((mS x) (2 : Int32).toNatClampNeg) ≤ 30 then (mS x) (2 : Int32).toNatClampNeg else 30) &&& 31)) - 1)) = true then if 8 < (r_count1 set) then false else true else false)
set_option maxHeartbeats 4000000 in
set_option maxRecDepth 100000 in
theorem c_X6_isFew (l : Launch) (G : GG) (M : Nat → Nat) (x : MT) (set : Int32)  (hI : mI (mS x)) (hO : mO (mS x)) : Met l yX6_isFew wsX6_isFew { frames := 1, cells := 0, slots := 0, locals := 22 } (roP G [.ref (M 0), .int set] (fun H => MAt G M x H)) (roQ (some (.int (b2i (r_isFew x set))))) 0 0 nF := by
  refine Met.ofW (cc := cX6_isFew) (maxL := 3) (ret := (some .boolean)) (by decide) rfl ?_
  intro p e s m args below meth c s₁ Bd hml hv
  obtain ⟨rfl, hK, hB⟩ := hv
  have hx := Bd.exec
  have hb := Bd.bytes
  have hr := Bd.returns
  have hts := atoms_spec (ws := wsX6_isFew) Bd.pre
  have hown : s.vm.findClass RX6 = some m.cls := findClass_of_methodNamed Bd.named
  have hlocks := Bd.notSynchronized
  have hC : CallFix p m c cX6_isFew 3 s _ wsX6_isFew RX6 := ⟨hx, hb, hml, hown, hts⟩
  have hl := lv_entry ([.ref (M 0), .int set]) (n := 3) (Nat.le_of_ble_eq_true rfl)
  rw [lg_entry_eq]
  generalize (lg_sl ([.ref (M 0), .int set]) ++ List.replicate (3 - (lg_sl ([.ref (M 0), .int set])).length) Slot.unset).toArray = ls at hl ⊢
  have hl : lv_has ls 3 [(0, .ref (M 0)), (1, .int set)] := hl
  refine lv_aload_n hx hb dX6_isFew_0 rfl (lv_at hl 0 rfl) ?_
  refine r_get (C := RX6) (T := TX6) (N := 18) hx hb hts i_X6_isFew_X6 hown hK hB.1 rfl 1 (by decide) k_X6_isFew_fieldLink_9 rfl rfl dX6_isFew_1 ?_
  refine lv_iconst (v := 2) hx hb dX6_isFew_4 (by decide) ?_
  refine r_iald hx hb hK hB.2.1 (vp_ib (lo := 2) (hi := 2) (ib_nI (n := 2) (by decide)) (by decide) (by decide)) dX6_isFew_5 ?_
  refine lv_bipush (v := 30) hx hb dX6_isFew_6 (by decide +kernel) ?_
  refine join_at (nL := 3) 22 [(0, .ref (M 0)), (1, .int set)] [.int (if ((mS x) (2 : Int32).toNatClampNeg) ≤ 30 then (mS x) (2 : Int32).toNatClampNeg else 30)] (fun ls hl => ?_) (fun J_1 => ?_)
  · refine lv_istore_n (lv' := [(2, .int (if ((mS x) (2 : Int32).toNatClampNeg) ≤ 30 then (mS x) (2 : Int32).toNatClampNeg else 30)), (0, .ref (M 0)), (1, .int set)]) hx hb dX6_isFew_22 rfl hl (by decide) rfl (fun ls hl => ?_)
    refine lv_iload_n hx hb dX6_isFew_23 rfl (lv_at hl 2 rfl) ?_
    refine lv_iconst (v := 0) hx hb dX6_isFew_24 (by decide) ?_
    refine lv_iconst (v := 1) hx hb dX6_isFew_25 (by decide) ?_
    refine lv_iload_n hx hb dX6_isFew_26 rfl (lv_at hl 0 rfl) ?_
    refine lv_ishl hx hb dX6_isFew_27 ?_
    refine lv_iconst (v := 1) hx hb dX6_isFew_28 (by decide) ?_
    refine lv_isub hx hb dX6_isFew_29 ?_
    refine ro_call (va_runS (As := [.int set, .int 0, .int (((1 : Int32) <<< ((if ((mS x) (2 : Int32).toNatClampNeg) ≤ 30 then (mS x) (2 : Int32).toNatClampNeg else 30) &&& 31)) - 1)]) (rest := []) hC (c_X6_in l G set 0 (((1 : Int32) <<< ((if ((mS x) (2 : Int32).toNatClampNeg) ≤ 30 then (mS x) (2 : Int32).toNatClampNeg else 30) &&& 31)) - 1)) (va_cwS 3 hts gX6_isFew_X6_in rfl rfl rfl kd_X6_in ⟨Nat.le_of_ble_eq_true rfl, Nat.le_of_ble_eq_true rfl⟩) (ro_preS hK trivial) rfl rfl hl.1 rfl (lv_room (Nat.le_of_ble_eq_true rfl)) dX6_isFew_30 ⟨Nat.zero_le _, Nat.zero_le _⟩) ?_
    refine join_at (nL := 3) 50 [(2, .int (if ((mS x) (2 : Int32).toNatClampNeg) ≤ 30 then (mS x) (2 : Int32).toNatClampNeg else 30)), (0, .ref (M 0)), (1, .int set)] [.int (b2i (if (r_in set 0 (((1 : Int32) <<< ((if ((mS x) (2 : Int32).toNatClampNeg) ≤ 30 then (mS x) (2 : Int32).toNatClampNeg else 30) &&& 31)) - 1)) = true then if 8 < (r_count1 set) then false else true else false))] (fun ls hl => ?_) (fun J_2 => ?_)
    · exact ro_zret hx hb hr hlocks dX6_isFew_50 rfl
    · refine bz_eq (tgt := 49) hx hb dX6_isFew_33 (by decide) (fun h_3 => ?_) (fun h_3 => ?_)
      · refine lv_iconst (v := 0) hx hb dX6_isFew_49 (by decide) ?_
        have hJ := J_2; (repeat rw [if_neg h_3] at hJ)
        first | exact hJ ls (lv_sub hl [0, 1, 2] rfl) | ((repeat rw [if_neg h_3] at hl); (repeat rw [if_neg h_3]); exact hJ ls (lv_sub hl [0, 1, 2] rfl))
      · refine lv_iload_n hx hb dX6_isFew_36 rfl (lv_at hl 2 rfl) ?_
        refine ro_call (va_runS (As := [.int set]) (rest := []) hC (c_X6_count1 l G set) (va_cwS 1 hts gX6_isFew_X6_count1 rfl rfl rfl kd_X6_count1 ⟨Nat.le_of_ble_eq_true rfl, Nat.le_of_ble_eq_true rfl⟩) (ro_preS hK trivial) rfl rfl hl.1 rfl (lv_room (Nat.le_of_ble_eq_true rfl)) dX6_isFew_37 ⟨Nat.zero_le _, Nat.zero_le _⟩) ?_
        refine lv_bipush (v := 8) hx hb dX6_isFew_40 (by decide +kernel) ?_
        refine lv_icmp_gt (tgt := 49) hx hb dX6_isFew_42 (by decide) (fun h_4 => ?_) (fun h_4 => ?_)
        · refine lv_iconst (v := 0) hx hb dX6_isFew_49 (by decide) ?_
          have hJ := J_2; (repeat rw [if_pos h_3] at hJ); (repeat rw [if_pos h_4] at hJ)
          first | exact hJ ls (lv_sub hl [0, 1, 2] rfl) | ((repeat rw [if_pos h_3] at hl); (repeat rw [if_pos h_4] at hl); (repeat rw [if_pos h_3]); (repeat rw [if_pos h_4]); exact hJ ls (lv_sub hl [0, 1, 2] rfl))
        · refine lv_iconst (v := 1) hx hb dX6_isFew_45 (by decide) ?_
          refine lv_goto (tgt := 50) hx hb dX6_isFew_46 (by decide) ?_
          have hJ := J_2; (repeat rw [if_pos h_3] at hJ); (repeat rw [if_neg h_4] at hJ)
          first | exact hJ ls (lv_sub hl [0, 1, 2] rfl) | ((repeat rw [if_pos h_3] at hl); (repeat rw [if_neg h_4] at hl); (repeat rw [if_pos h_3]); (repeat rw [if_neg h_4]); exact hJ ls (lv_sub hl [0, 1, 2] rfl))
  · refine lv_icmp_le (tgt := 16) hx hb dX6_isFew_8 (by decide) (fun h_5 => ?_) (fun h_5 => ?_)
    · refine lv_aload_n hx hb dX6_isFew_16 rfl (lv_at hl 0 rfl) ?_
      refine r_get (C := RX6) (T := TX6) (N := 18) hx hb hts i_X6_isFew_X6 hown hK hB.1 rfl 1 (by decide) k_X6_isFew_fieldLink_9 rfl rfl dX6_isFew_17 ?_
      refine lv_iconst (v := 2) hx hb dX6_isFew_20 (by decide) ?_
      refine r_iald hx hb hK hB.2.1 (vp_ib (lo := 2) (hi := 2) (ib_nI (n := 2) (by decide)) (by decide) (by decide)) dX6_isFew_21 ?_
      have hJ := J_1; (repeat rw [if_pos h_5] at hJ)
      first | exact hJ ls (lv_sub hl [0, 1] rfl) | ((repeat rw [if_pos h_5] at hl); (repeat rw [if_pos h_5]); exact hJ ls (lv_sub hl [0, 1] rfl))
    · refine lv_bipush (v := 30) hx hb dX6_isFew_11 (by decide +kernel) ?_
      refine lv_goto (tgt := 22) hx hb dX6_isFew_13 (by decide) ?_
      have hJ := J_1; (repeat rw [if_neg h_5] at hJ)
      first | exact hJ ls (lv_sub hl [0, 1] rfl) | ((repeat rw [if_neg h_5] at hl); (repeat rw [if_neg h_5]); exact hJ ls (lv_sub hl [0, 1] rfl))
theorem k_X6_likeliest_constantLong_202 : Cond.constantLong RX6 202 (-1) ∈ wsX6_likeliest := by decide +kernel
theorem i_X6_likeliest_X6 : ∀ w ∈ wsX60, w ∈ wsX6_likeliest := fun _ h => List.mem_cons_of_mem _ (List.mem_append_right _ h)
theorem k_X6_likeliest_fieldLink_9 : Cond.fieldLink RX6 9 "SameWaterModel" "s" "[I" ∈ wsX6_likeliest := by decide +kernel
theorem kd_X6_isFew : yX6_isFew.cls = RX6 ∧ yX6_isFew.cls ≠ "java/lang/invoke/MethodHandle" ∧ yX6_isFew.cls ≠ "java/lang/invoke/VarHandle" ∧ (parseMethodDescriptor yX6_isFew.desc).map (fun d => d.parameters.length) = some 1 := by decide +kernel
theorem kd_X6_oddsOf : yX6_oddsOf.cls = RX6 ∧ yX6_oddsOf.cls ≠ "java/lang/invoke/MethodHandle" ∧ yX6_oddsOf.cls ≠ "java/lang/invoke/VarHandle" ∧ (parseMethodDescriptor yX6_oddsOf.desc).map (fun d => d.parameters.length) = some 2 := by decide +kernel
def r_likeGo (x : MT) (set : Int32) : Nat → Nat → Int32 → Int64 → Int32
  | 0, _, best, _ => best
  | n + 1, k, best, most => r_likeGo x set n (k + 1) (if (lg_cmp (r_oddsOf x (nI k) set) most) ≤ 0 then best else nI k) (if (lg_cmp (r_oddsOf x (nI k) set) most) ≤ 0 then most else r_oddsOf x (nI k) set)
theorem r_likeGo_0 (x : MT) (set : Int32) (k : Nat) (best : Int32) (most : Int64) : r_likeGo x set 0 k best most = (best) := rfl
theorem r_likeGo_s (x : MT) (set : Int32) (n k : Nat) (best : Int32) (most : Int64) : r_likeGo x set (n + 1) k best most = (r_likeGo x set n (k + 1) (if (lg_cmp (r_oddsOf x (nI k) set) most) ≤ 0 then best else nI k) (if (lg_cmp (r_oddsOf x (nI k) set) most) ≤ 0 then most else r_oddsOf x (nI k) set)) := rfl
def r_likeliest (x : MT) (set : Int32) : Int32 := if (r_isFew x set) = true then r_likeGo x set (((mS x) (3 : Int32).toNatClampNeg).toNatClampNeg) 0 (-5) (-1) else (-2)
set_option maxHeartbeats 4000000 in
set_option maxRecDepth 100000 in
theorem c_X6_likeliest (l : Launch) (G : GG) (M : Nat → Nat) (x : MT) (set : Int32)  (hI : mI (mS x)) (hO : mO (mS x)) (hMW : mW (mS x)) (hN : mN M) : Met l yX6_likeliest wsX6_likeliest { frames := 7, cells := 0, slots := 0, locals := 175 } (roP G [.ref (M 0), .int set] (fun H => MAt G M x H)) (wrQ (some (.int ((r_likeliest x set)))) (fun H => MAt G M x H) (m3 M)) 0 0 (m3 M) := by
  refine Met.ofW (cc := cX6_likeliest) (maxL := 8) (ret := (some .int)) (by decide) rfl ?_
  intro p e s m args below meth c s₁ Bd hml hv
  obtain ⟨rfl, hK, hB⟩ := hv
  have hx := Bd.exec
  have hb := Bd.bytes
  have hr := Bd.returns
  have hts := atoms_spec (ws := wsX6_likeliest) Bd.pre
  have hown : s.vm.findClass RX6 = some m.cls := findClass_of_methodNamed Bd.named
  have hlocks := Bd.notSynchronized
  have hC : CallFix p m c cX6_likeliest 8 s _ wsX6_likeliest RX6 := ⟨hx, hb, hml, hown, hts⟩
  have hl := lv_entry ([.ref (M 0), .int set]) (n := 8) (Nat.le_of_ble_eq_true rfl)
  rw [lg_entry_eq]
  generalize (lg_sl ([.ref (M 0), .int set]) ++ List.replicate (8 - (lg_sl ([.ref (M 0), .int set])).length) Slot.unset).toArray = ls at hl ⊢
  have hl : lv_has ls 8 [(0, .ref (M 0)), (1, .int set)] := hl
  have hS : wS (m3 M) s.heap s.heap [] := wS.rf
  have f_s := hB
  have hZ := trivial
  have hC3 : ib 0 8 ((mS x) (3 : Int32).toNatClampNeg) := hI 3 (3, 3, 0, 8) (by decide) (Nat.le_refl _) (Nat.le_refl _)
  have hD3 : ((mS x) (3 : Int32).toNatClampNeg).toNatClampNeg ≤ 8 := by have := (hC3.clamp (by decide)).2; omega
  refine lv_aload_n hx hb dX6_likeliest_0 rfl (lv_at hl 0 rfl) ?_
  refine lv_iload_n hx hb dX6_likeliest_1 rfl (lv_at hl 1 rfl) ?_
  refine ro_call (va_runV (As := [.int set]) (rest := []) hC (c_X6_isFew l G M x set hI hO) (cwV 1 hts gX6_likeliest_X6_isFew rfl rfl rfl kd_X6_isFew ⟨Nat.le_of_ble_eq_true rfl, Nat.le_of_ble_eq_true rfl⟩) (ro_preV hK f_s.1 rfl f_s) rfl rfl hl.1 rfl (lv_room (Nat.le_of_ble_eq_true rfl)) dX6_likeliest_2 ⟨Nat.zero_le _, Nat.zero_le _⟩) ?_
  refine bz_ne (tgt := 11) hx hb dX6_likeliest_5 (by decide) (fun h_1 => ?_) (fun h_1 => ?_)
  · refine lv_bipush (v := (-5)) hx hb dX6_likeliest_11 (by decide +kernel) ?_
    refine lv_istore_n (lv' := [(2, .int (-5)), (0, .ref (M 0)), (1, .int set)]) hx hb dX6_likeliest_13 rfl hl (by decide) rfl (fun ls hl => ?_)
    refine lv_ldc2 (v := (-1)) hx hb hown (hts _ k_X6_likeliest_constantLong_202) dX6_likeliest_14 ?_
    refine lv_lstore_n (lv' := [(3, .long (-1)), (2, .int (-5)), (0, .ref (M 0)), (1, .int set)]) hx hb dX6_likeliest_17 rfl hl (by decide) rfl (fun ls hl => ?_)
    refine lv_iconst (v := 0) hx hb dX6_likeliest_18 (by decide) ?_
    refine lv_istore (lv' := [(5, .int 0), (3, .long (-1)), (2, .int (-5)), (0, .ref (M 0)), (1, .int set)]) hx hb dX6_likeliest_19 hl (by decide) rfl (fun ls hl => ?_)
    refine loop_wr (nL := 8) (α := Nat × Int32 × Int64) (fun a9 => [(0, .ref (M 0)), (1, .int set), (2, .int (a9.2.1)), (3, .long (a9.2.2)), (5, .int (nI (a9.1)))]) (fun a9 H locs => (a9.1 ≤ ((mS x) (3 : Int32).toNatClampNeg).toNatClampNeg ∧ r_likeGo x set ((((mS x) (3 : Int32).toNatClampNeg).toNatClampNeg) - a9.1) a9.1 a9.2.1 a9.2.2 = r_likeGo x set (((mS x) (3 : Int32).toNatClampNeg).toNatClampNeg) 0 (-5) (-1)) ∧ (MAt G M x H) ∧ wS (m3 M) s.heap H locs ∧ True) (fun a9 => ((mS x) (3 : Int32).toNatClampNeg).toNatClampNeg - a9.1) (0, (-5), (-1)) ⟨⟨(by first | exact Nat.zero_le _ | decide | omega), rfl⟩, f_s, hS, hZ⟩ (lv_sub hl [3, 4, 2, 1, 0] rfl) (fun a9 H locs hI9 ih_k ls hl => ?_)
    obtain ⟨k, best, most⟩ := a9
    obtain ⟨hI9, f_s, hS, hZ⟩ := hI9
    have f_s : MAt G M x H := f_s
    obtain ⟨hk_k, hV⟩ : k ≤ ((mS x) (3 : Int32).toNatClampNeg).toNatClampNeg ∧ r_likeGo x set ((((mS x) (3 : Int32).toNatClampNeg).toNatClampNeg) - k) k best most = r_likeGo x set (((mS x) (3 : Int32).toNatClampNeg).toNatClampNeg) 0 (-5) (-1) := hI9
    have hl : lv_has ls 8 [(0, .ref (M 0)), (1, .int set), (2, .int best), (3, .long most), (5, .int (nI k))] := hl
    refine lv_iload hx hb dX6_likeliest_21 (lv_at hl 4 rfl) ?_
    refine lv_aload_n hx hb dX6_likeliest_23 rfl (lv_at hl 0 rfl) ?_
    refine r_get (C := RX6) (T := TX6) (N := 18) hx hb hts i_X6_likeliest_X6 hown hK f_s.1 rfl 1 (by decide) k_X6_likeliest_fieldLink_9 rfl rfl dX6_likeliest_24 ?_
    refine lv_iconst (v := 3) hx hb dX6_likeliest_27 (by decide) ?_
    refine r_iald hx hb hK f_s.2.1 (vp_ib (lo := 3) (hi := 3) (ib_nI (n := 3) (by decide)) (by decide) (by decide)) dX6_likeliest_28 ?_
    refine lv_icmp_ge (tgt := 75) hx hb dX6_likeliest_29 (by decide) (fun h_2 => ?_) (fun h_2 => ?_)
    · have hN_k : k = ((mS x) (3 : Int32).toNatClampNeg).toNatClampNeg := ge_ex (N := ((mS x) (3 : Int32).toNatClampNeg).toNatClampNeg) (cnt_beq hC3 (by decide)) h_2 hk_k (by omega)
      subst hN_k
      rw [Nat.sub_self] at hV
      refine lv_iload_n hx hb dX6_likeliest_75 rfl (lv_at hl 2 rfl) ?_
      have hE9 : r_likeliest x set = best := (by (try unfold r_likeliest); (repeat rw [if_pos h_1]); rw [← hV, r_likeGo_0]; first | done | rfl)
      exact wr_iret hx hb hr hlocks dX6_likeliest_76 hS (by first | exact f_s | (rw [hE9]; exact f_s)) (by rw [hE9]; first | done | rfl)
    · have hlt_k : k < ((mS x) (3 : Int32).toNatClampNeg).toNatClampNeg := ge_in (N := ((mS x) (3 : Int32).toNatClampNeg).toNatClampNeg) (cnt_beq hC3 (by decide)) h_2 hk_k (by omega)
      obtain ⟨n9, hn9⟩ : ∃ n9, (((mS x) (3 : Int32).toNatClampNeg).toNatClampNeg) - k = n9 + 1 := ⟨(((mS x) (3 : Int32).toNatClampNeg).toNatClampNeg) - k - 1, by omega⟩
      rw [hn9] at hV
      refine lv_aload_n hx hb dX6_likeliest_32 rfl (lv_at hl 0 rfl) ?_
      refine lv_iload hx hb dX6_likeliest_33 (lv_at hl 4 rfl) ?_
      refine lv_iload_n hx hb dX6_likeliest_35 rfl (lv_at hl 1 rfl) ?_
      refine wr_call (va_runV (As := [.int (nI k), .int set]) (rest := []) hC (c_X6_oddsOf l G M x (nI k) set hI hO hMW hN (ib.weak (ib_ltc hC3 (by omega) (by decide)) (by decide) (by decide)) (law_wf hI hMW (by omega))) (cwV 2 hts gX6_likeliest_X6_oddsOf rfl rfl rfl kd_X6_oddsOf ⟨Nat.le_of_ble_eq_true rfl, Nat.le_of_ble_eq_true rfl⟩) (ro_preV hK f_s.1 rfl f_s) rfl rfl hl.1 rfl (lv_room (Nat.le_of_ble_eq_true rfl)) dX6_likeliest_36 ⟨Nat.zero_le _, Nat.zero_le _⟩) hS (fun q h => h) (fun H locs f_n hq hS => ?_)
      have f_s := f_n
      refine lv_lstore (lv' := [(6, .long (r_oddsOf x (nI k) set)), (0, .ref (M 0)), (1, .int set), (2, .int best), (3, .long most), (5, .int (nI k))]) hx hb dX6_likeliest_39 hl (by decide) rfl (fun ls hl => ?_)
      refine lv_lload hx hb dX6_likeliest_41 (lv_at hl 0 rfl) ?_
      refine lv_lload_n hx hb dX6_likeliest_43 rfl (lv_at hl 4 rfl) ?_
      refine W.lcmp hx hb dX6_likeliest_44 ?_
      refine join_wr (nL := 8) 54 [(6, .long (r_oddsOf x (nI k) set)), (0, .ref (M 0)), (1, .int set), (2, .int best), (3, .long most), (5, .int (nI k))] [.int (if (lg_cmp (r_oddsOf x (nI k) set) most) ≤ 0 then best else nI k)] (fun H locs => (MAt G M x H) ∧ wS (m3 M) s.heap H locs ∧ True) (fun H locs hI ls hl => ?_) (fun J_3 => ?_)
      · obtain ⟨f_s, hS, hZ⟩ := hI
        refine lv_istore_n (lv' := [(2, .int (if (lg_cmp (r_oddsOf x (nI k) set) most) ≤ 0 then best else nI k)), (6, .long (r_oddsOf x (nI k) set)), (0, .ref (M 0)), (1, .int set), (3, .long most), (5, .int (nI k))]) hx hb dX6_likeliest_54 rfl hl (by decide) rfl (fun ls hl => ?_)
        refine lv_lload hx hb dX6_likeliest_55 (lv_at hl 1 rfl) ?_
        refine lv_lload_n hx hb dX6_likeliest_57 rfl (lv_at hl 4 rfl) ?_
        refine W.lcmp hx hb dX6_likeliest_58 ?_
        refine join_wr (nL := 8) 68 [(2, .int (if (lg_cmp (r_oddsOf x (nI k) set) most) ≤ 0 then best else nI k)), (6, .long (r_oddsOf x (nI k) set)), (0, .ref (M 0)), (1, .int set), (3, .long most), (5, .int (nI k))] [.long (if (lg_cmp (r_oddsOf x (nI k) set) most) ≤ 0 then most else r_oddsOf x (nI k) set)] (fun H locs => (MAt G M x H) ∧ wS (m3 M) s.heap H locs ∧ True) (fun H locs hI ls hl => ?_) (fun J_4 => ?_)
        · obtain ⟨f_s, hS, hZ⟩ := hI
          refine lv_lstore_n (lv' := [(3, .long (if (lg_cmp (r_oddsOf x (nI k) set) most) ≤ 0 then most else r_oddsOf x (nI k) set)), (2, .int (if (lg_cmp (r_oddsOf x (nI k) set) most) ≤ 0 then best else nI k)), (6, .long (r_oddsOf x (nI k) set)), (0, .ref (M 0)), (1, .int set), (5, .int (nI k))]) hx hb dX6_likeliest_68 rfl hl (by decide) rfl (fun ls hl => ?_)
          refine lv_iinc (v := (nI k) + 1) (lv' := [(5, .int ((nI k) + 1)), (3, .long (if (lg_cmp (r_oddsOf x (nI k) set) most) ≤ 0 then most else r_oddsOf x (nI k) set)), (2, .int (if (lg_cmp (r_oddsOf x (nI k) set) most) ≤ 0 then best else nI k)), (6, .long (r_oddsOf x (nI k) set)), (0, .ref (M 0)), (1, .int set)]) hx hb dX6_likeliest_69 hl (k := 5) rfl rfl (by decide) rfl (fun ls hl => ?_)
          refine lv_goto (tgt := 21) hx hb dX6_likeliest_72 (by decide) ?_
          have hE : r_likeGo x set n9 (k + 1) (if (lg_cmp (r_oddsOf x (nI k) set) most) ≤ 0 then best else nI k) (if (lg_cmp (r_oddsOf x (nI k) set) most) ≤ 0 then most else r_oddsOf x (nI k) set) = r_likeGo x set (((mS x) (3 : Int32).toNatClampNeg).toNatClampNeg) 0 (-5) (-1) := (by rw [← hV, r_likeGo_s]; first | done | rfl)
          refine ih_k ((k + 1, if (lg_cmp (r_oddsOf x (nI k) set) most) ≤ 0 then best else nI k, if (lg_cmp (r_oddsOf x (nI k) set) most) ≤ 0 then most else r_oddsOf x (nI k) set)) _ _ ⟨⟨(show k + 1 ≤ ((mS x) (3 : Int32).toNatClampNeg).toNatClampNeg by omega), (by show r_likeGo x set ((((mS x) (3 : Int32).toNatClampNeg).toNatClampNeg) - (k + 1)) (k + 1) (if (lg_cmp (r_oddsOf x (nI k) set) most) ≤ 0 then best else nI k) (if (lg_cmp (r_oddsOf x (nI k) set) most) ≤ 0 then most else r_oddsOf x (nI k) set) = _; rw [show (((mS x) (3 : Int32).toNatClampNeg).toNatClampNeg) - (k + 1) = n9 by omega]; exact hE)⟩, f_s, hS, hZ⟩ (show (((mS x) (3 : Int32).toNatClampNeg).toNatClampNeg) - (k + 1) < (((mS x) (3 : Int32).toNatClampNeg).toNatClampNeg) - k by omega) ls ?_
          show lv_has ls 8 [(0, .ref (M 0)), (1, .int set), (2, .int (if (lg_cmp (r_oddsOf x (nI k) set) most) ≤ 0 then best else nI k)), (3, .long (if (lg_cmp (r_oddsOf x (nI k) set) most) ≤ 0 then most else r_oddsOf x (nI k) set)), (5, .int (nI (k + 1)))]
          rw [nI_succ]
          exact lv_sub hl [4, 5, 2, 1, 0] rfl
        · refine lv_if_le (tgt := 67) hx hb dX6_likeliest_59 (by decide) (fun h_5 => ?_) (fun h_5 => ?_)
          · refine lv_lload_n hx hb dX6_likeliest_67 rfl (lv_at hl 4 rfl) ?_
            have hJ := J_4; (repeat rw [if_pos h_5] at hJ)
            first | exact hJ _ _ ⟨f_s, hS, hZ⟩ ls (lv_sub hl [0, 1, 2, 3, 4, 5] rfl) | ((repeat rw [if_pos h_5] at hl); (repeat rw [if_pos h_5]); exact hJ _ _ ⟨f_s, hS, hZ⟩ ls (lv_sub hl [0, 1, 2, 3, 4, 5] rfl))
          · refine lv_lload hx hb dX6_likeliest_62 (lv_at hl 1 rfl) ?_
            refine lv_goto (tgt := 68) hx hb dX6_likeliest_64 (by decide) ?_
            have hJ := J_4; (repeat rw [if_neg h_5] at hJ)
            first | exact hJ _ _ ⟨f_s, hS, hZ⟩ ls (lv_sub hl [0, 1, 2, 3, 4, 5] rfl) | ((repeat rw [if_neg h_5] at hl); (repeat rw [if_neg h_5]); exact hJ _ _ ⟨f_s, hS, hZ⟩ ls (lv_sub hl [0, 1, 2, 3, 4, 5] rfl))
      · refine lv_if_le (tgt := 53) hx hb dX6_likeliest_45 (by decide) (fun h_6 => ?_) (fun h_6 => ?_)
        · refine lv_iload_n hx hb dX6_likeliest_53 rfl (lv_at hl 3 rfl) ?_
          have hJ := J_3; (repeat rw [if_pos h_6] at hJ)
          first | exact hJ _ _ ⟨f_s, hS, hZ⟩ ls (lv_sub hl [0, 1, 2, 3, 4, 5] rfl) | ((repeat rw [if_pos h_6] at hl); (repeat rw [if_pos h_6]); exact hJ _ _ ⟨f_s, hS, hZ⟩ ls (lv_sub hl [0, 1, 2, 3, 4, 5] rfl))
        · refine lv_iload hx hb dX6_likeliest_48 (lv_at hl 5 rfl) ?_
          refine lv_goto (tgt := 54) hx hb dX6_likeliest_50 (by decide) ?_
          have hJ := J_3; (repeat rw [if_neg h_6] at hJ)
          first | exact hJ _ _ ⟨f_s, hS, hZ⟩ ls (lv_sub hl [0, 1, 2, 3, 4, 5] rfl) | ((repeat rw [if_neg h_6] at hl); (repeat rw [if_neg h_6]); exact hJ _ _ ⟨f_s, hS, hZ⟩ ls (lv_sub hl [0, 1, 2, 3, 4, 5] rfl))
  · refine lv_bipush (v := (-2)) hx hb dX6_likeliest_8 (by decide +kernel) ?_
    have hE9 : r_likeliest x set = (-2) := (by (try unfold r_likeliest); (repeat rw [if_neg h_1]); first | done | rfl)
    exact wr_iret hx hb hr hlocks dX6_likeliest_10 hS (by first | exact f_s | (rw [hE9]; exact f_s)) (by rw [hE9]; first | done | rfl)

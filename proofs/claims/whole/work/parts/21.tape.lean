/-- the byte at a place, as a number -/
def byN (x : Int32) : Nat := (x &&& 255).toNatClampNeg
theorem byN_lt (x : Int32) : byN x < 256 := by
  obtain ⟨j, hj, e⟩ := pk_andE x (m := 255) 8 (by decide)
  rw [byN, e, nI_clamp (by omega)]
  exact hj
theorem byN_eq (x : Int32) : ((x &&& 255 : Int32).toUInt32 % 65536).toInt32 = nI (byN x) := by
  obtain ⟨j, hj, e⟩ := pk_andE x (m := 255) 8 (by decide)
  rw [sc_c2, byN, e, nI_clamp (by omega)]
theorem i_X3_take_X3 : ∀ w ∈ wsX30, w ∈ wsX3_take := fun _ h => List.mem_cons_of_mem _ (List.mem_append_right _ h)
theorem k_X3_take_fieldLink_30 : Cond.fieldLink RX3 30 "SameWater$Tape" "place" "I" ∈ wsX3_take := by decide +kernel
theorem k_X3_take_fieldLink_15 : Cond.fieldLink RX3 15 "SameWater$Tape" "size" "I" ∈ wsX3_take := by decide +kernel
theorem k_X3_take_fieldLink_9 : Cond.fieldLink RX3 9 "SameWater$Tape" "bytes" "[B" ∈ wsX3_take := by decide +kernel
def q_take (sz : Nat) (bt : Nat → Int32) (sg : Int32) (pl : Nat) : Bool × Nat := if (nI pl) < 0 then (false, pl) else if (nI sz) ≤ (nI pl) then (false, pl) else if 120 ≤ (nI pl) then (false, pl) else if ((bt (nI pl).toNatClampNeg) &&& 255) = sg then (true, (pl + 1)) else (false, pl)
set_option maxHeartbeats 4000000 in
set_option maxRecDepth 100000 in
theorem c_X3_take (l : Launch) (G : GG) (t0 t1 sz : Nat) (bt : Nat → Int32) (pl : Nat) (sg : Int32) (htt : t0 ≠ t1) : Met l yX3_take wsX3_take { frames := 0, cells := 0, slots := 0, locals := 0 } (roP G [.ref t0, .int sg] (fun H => TpAt G t0 t1 (sz, pl, bt) H)) (wrQ (some (.int (b2i ((q_take sz bt sg pl).1)))) (fun H => TpAt G t0 t1 (sz, (q_take sz bt sg pl).2, bt) H) (fun q => q = t0)) 0 0 (fun q => q = t0) := by
  refine Met.ofW (cc := cX3_take) (maxL := 2) (ret := (some .boolean)) (by decide) rfl ?_
  intro p e s m args below meth c s₁ Bd hml hv
  obtain ⟨rfl, hK, hB⟩ := hv
  have hx := Bd.exec
  have hb := Bd.bytes
  have hr := Bd.returns
  have hts := atoms_spec (ws := wsX3_take) Bd.pre
  have hown : s.vm.findClass RX3 = some m.cls := findClass_of_methodNamed Bd.named
  have hlocks := Bd.notSynchronized
  have hC : CallFix p m c cX3_take 2 s _ wsX3_take RX3 := ⟨hx, hb, hml, hown, hts⟩
  have hl := lv_entry ([.ref t0, .int sg]) (n := 2) (Nat.le_of_ble_eq_true rfl)
  rw [lg_entry_eq]
  generalize (lg_sl ([.ref t0, .int sg]) ++ List.replicate (2 - (lg_sl ([.ref t0, .int sg])).length) Slot.unset).toArray = ls at hl ⊢
  have hl : lv_has ls 2 [(0, .ref t0), (1, .int sg)] := hl
  have hS : wS (fun q => q = t0) s.heap s.heap [] := wS.rf
  have f_s := hB
  have hZ := trivial
  refine lv_aload_n hx hb dX3_take_0 rfl (lv_at hl 0 rfl) ?_
  refine r_get (C := RX3) (T := TX3) (N := 3) hx hb hts i_X3_take_X3 hown hK f_s.1 rfl 2 (by decide) k_X3_take_fieldLink_30 rfl rfl dX3_take_1 ?_
  refine lv_if_lt (tgt := 44) hx hb dX3_take_4 (by decide) (fun h_1 => ?_) (fun h_1 => ?_)
  · refine lv_iconst (v := 0) hx hb dX3_take_44 (by decide) ?_
    have hE9 : q_take sz bt sg pl = (false, pl) := (by (try unfold q_take); (repeat rw [if_pos h_1]); first | done | rfl)
    exact wr_zret hx hb hr hlocks dX3_take_45 hS (by rw [hE9]; exact f_s) (by rw [hE9]; first | done | rfl)
  · refine lv_aload_n hx hb dX3_take_7 rfl (lv_at hl 0 rfl) ?_
    refine r_get (C := RX3) (T := TX3) (N := 3) hx hb hts i_X3_take_X3 hown hK f_s.1 rfl 2 (by decide) k_X3_take_fieldLink_30 rfl rfl dX3_take_8 ?_
    refine lv_aload_n hx hb dX3_take_11 rfl (lv_at hl 0 rfl) ?_
    refine r_get (C := RX3) (T := TX3) (N := 3) hx hb hts i_X3_take_X3 hown hK f_s.1 rfl 1 (by decide) k_X3_take_fieldLink_15 rfl rfl dX3_take_12 ?_
    refine lv_icmp_ge (tgt := 44) hx hb dX3_take_15 (by decide) (fun h_2 => ?_) (fun h_2 => ?_)
    · refine lv_iconst (v := 0) hx hb dX3_take_44 (by decide) ?_
      have hE9 : q_take sz bt sg pl = (false, pl) := (by (try unfold q_take); (repeat rw [if_neg h_1]); (repeat rw [if_pos h_2]); first | done | rfl)
      exact wr_zret hx hb hr hlocks dX3_take_45 hS (by rw [hE9]; exact f_s) (by rw [hE9]; first | done | rfl)
    · refine lv_aload_n hx hb dX3_take_18 rfl (lv_at hl 0 rfl) ?_
      refine r_get (C := RX3) (T := TX3) (N := 3) hx hb hts i_X3_take_X3 hown hK f_s.1 rfl 2 (by decide) k_X3_take_fieldLink_30 rfl rfl dX3_take_19 ?_
      refine lv_bipush (v := 120) hx hb dX3_take_22 (by decide +kernel) ?_
      refine lv_icmp_ge (tgt := 44) hx hb dX3_take_24 (by decide) (fun h_3 => ?_) (fun h_3 => ?_)
      · refine lv_iconst (v := 0) hx hb dX3_take_44 (by decide) ?_
        have hE9 : q_take sz bt sg pl = (false, pl) := (by (try unfold q_take); (repeat rw [if_neg h_1]); (repeat rw [if_neg h_2]); (repeat rw [if_pos h_3]); first | done | rfl)
        exact wr_zret hx hb hr hlocks dX3_take_45 hS (by rw [hE9]; exact f_s) (by rw [hE9]; first | done | rfl)
      · refine lv_aload_n hx hb dX3_take_27 rfl (lv_at hl 0 rfl) ?_
        refine r_get (C := RX3) (T := TX3) (N := 3) hx hb hts i_X3_take_X3 hown hK f_s.1 rfl 0 (by decide) k_X3_take_fieldLink_9 rfl rfl dX3_take_28 ?_
        refine lv_aload_n hx hb dX3_take_31 rfl (lv_at hl 0 rfl) ?_
        refine r_get (C := RX3) (T := TX3) (N := 3) hx hb hts i_X3_take_X3 hown hK f_s.1 rfl 2 (by decide) k_X3_take_fieldLink_30 rfl rfl dX3_take_32 ?_
        refine r_bald hx hb hK f_s.2.1 (vp_of (n := 120) rfl h_1 h_3 (by decide)) dX3_take_35 ?_
        refine lv_sipush (v := 255) hx hb dX3_take_36 (by decide +kernel) ?_
        refine lv_iand hx hb dX3_take_39 ?_
        refine lv_iload_n hx hb dX3_take_40 rfl (lv_at hl 1 rfl) ?_
        refine lv_icmp_eq (tgt := 46) hx hb dX3_take_41 (by decide) (fun h_4 => ?_) (fun h_4 => ?_)
        · refine lv_aload_n hx hb dX3_take_46 rfl (lv_at hl 0 rfl) ?_
          refine lv_dup hx hb dX3_take_47 rfl ?_
          refine r_get (C := RX3) (T := TX3) (N := 3) hx hb hts i_X3_take_X3 hown hK f_s.1 rfl 2 (by decide) k_X3_take_fieldLink_30 rfl rfl dX3_take_48 ?_
          refine lv_iconst (v := 1) hx hb dX3_take_51 (by decide) ?_
          refine lv_iadd hx hb dX3_take_52 ?_
          refine w_put (C := RX3) (T := TX3) (N := 3) hx hb hts i_X3_take_X3 tyX3 tyX3_ok nmX3 hown hK f_s.1 hS rfl rfl 2 (by decide) k_X3_take_fieldLink_30 rfl rfl rfl rfl (Nat.le_of_ble_eq_true rfl) dX3_take_53 (fun H locs hn hq hS => ?_)
          have f_t : TpAt G t0 t1 (sz, pl + 1, bt) H := ⟨by rw [show nI (sz, pl + 1, bt).2.1 = nI pl + 1 from nI_succ _]; exact hn, f_s.2.1.kept (hq _ htt.symm), f_s.2.2.1, (sc_lt h_3 f_s.2.2.2)⟩
          have f_s := f_t
          refine lv_iconst (v := 1) hx hb dX3_take_56 (by decide) ?_
          have hE9 : q_take sz bt sg pl = (true, (pl + 1)) := (by (try unfold q_take); (repeat rw [if_neg h_1]); (repeat rw [if_neg h_2]); (repeat rw [if_neg h_3]); (repeat rw [if_pos h_4]); first | done | rfl)
          exact wr_zret hx hb hr hlocks dX3_take_57 hS (by rw [hE9]; exact f_s) (by rw [hE9]; first | done | rfl)
        · refine lv_iconst (v := 0) hx hb dX3_take_44 (by decide) ?_
          have hE9 : q_take sz bt sg pl = (false, pl) := (by (try unfold q_take); (repeat rw [if_neg h_1]); (repeat rw [if_neg h_2]); (repeat rw [if_neg h_3]); (repeat rw [if_neg h_4]); first | done | rfl)
          exact wr_zret hx hb hr hlocks dX3_take_45 hS (by rw [hE9]; exact f_s) (by rw [hE9]; first | done | rfl)
theorem c2_X3_take (l : Launch) (G : GG) (t0 t1 sz : Nat) (bt : Nat → Int32) (pl : Nat) (sg : Int32) (htt : t0 ≠ t1) (b9 : Bool) (pl9 : Nat) (hy9 : q_take sz bt sg pl = (b9, pl9)) : Met l yX3_take wsX3_take { frames := 0, cells := 0, slots := 0, locals := 0 } (roP G [.ref t0, .int sg] (fun H => TpAt G t0 t1 (sz, pl, bt) H)) (wrQ (some (.int (b2i b9))) (fun H => TpAt G t0 t1 (sz, pl9, bt) H) (fun q => q = t0)) 0 0 (fun q => q = t0) := by
  have h9 := c_X3_take l G t0 t1 sz bt pl sg htt
  rw [hy9] at h9
  exact h9
theorem q_more {p sz : Nat} (h : (if (nI p) < 0 then false else if (nI sz) ≤ (nI p) then false else if 120 ≤ (nI p) then false else true) = true) : vp_in (nI p) 120 := by
  split at h
  · cases h
  · split at h
    · cases h
    · split at h
      · cases h
      · rename_i h1 h2 h3
        exact vp_of (n := 120) rfl h1 h3 (by decide)
theorem q_more2 {p sz : Nat} (h : (if (nI p) < 0 then false else if (nI sz) ≤ (nI p) then false else if 120 ≤ (nI p) then false else true) = true) (hp : p ≤ 120) : p + 1 ≤ 120 := by
  have h2 := vp_lt (q_more h)
  rw [nI_clamp (by omega)] at h2
  exact h2
theorem found_more {M : Bool} {j : Int32} (h : ¬ (if M = true then j else -1) < 0) : M = true := by
  cases M with
  | true => rfl
  | false => exact absurd (show (if false = true then j else (-1 : Int32)) < 0 from by rw [if_neg (by decide)]; decide) h
theorem i_X3_takeOne_X3 : ∀ w ∈ wsX30, w ∈ wsX3_takeOne := fun _ h => List.mem_cons_of_mem _ (List.mem_append_right _ h)
theorem k_X3_takeOne_fieldLink_30 : Cond.fieldLink RX3 30 "SameWater$Tape" "place" "I" ∈ wsX3_takeOne := by decide +kernel
theorem k_X3_takeOne_fieldLink_9 : Cond.fieldLink RX3 9 "SameWater$Tape" "bytes" "[B" ∈ wsX3_takeOne := by decide +kernel
theorem k_X3_takeOne_fieldLink_15 : Cond.fieldLink RX3 15 "SameWater$Tape" "size" "I" ∈ wsX3_takeOne := by decide +kernel
theorem kd_J0_indexOf_0f7a4 : yJ0_indexOf_0f7a4.cls = RJ0 ∧ yJ0_indexOf_0f7a4.cls ≠ "java/lang/invoke/MethodHandle" ∧ yJ0_indexOf_0f7a4.cls ≠ "java/lang/invoke/VarHandle" ∧ (parseMethodDescriptor yJ0_indexOf_0f7a4.desc).map (fun d => d.parameters.length) = some 1 := by decide +kernel
def q_takeOne (sz : Nat) (bt : Nat → Int32) (i : Nat) (pl : Nat) : Int32 × Nat := if (if (if (nI pl) < 0 then false else if (nI sz) ≤ (nI pl) then false else if 120 ≤ (nI pl) then false else true) = true then j_ix i (byN (bt (nI pl).toNatClampNeg)) (txB i).length 0 else (-1)) < 0 then (if (if (nI pl) < 0 then false else if (nI sz) ≤ (nI pl) then false else if 120 ≤ (nI pl) then false else true) = true then j_ix i (byN (bt (nI pl).toNatClampNeg)) (txB i).length 0 else (-1), pl) else (if (if (nI pl) < 0 then false else if (nI sz) ≤ (nI pl) then false else if 120 ≤ (nI pl) then false else true) = true then j_ix i (byN (bt (nI pl).toNatClampNeg)) (txB i).length 0 else (-1), (pl + 1))
set_option maxHeartbeats 4000000 in
set_option maxRecDepth 100000 in
theorem c_X3_takeOne (l : Launch) (G : GG) (Z : AM) (t0 t1 sz : Nat) (bt : Nat → Int32) (pl : Nat) (i : Nat) (htt : t0 ≠ t1) (hAZ : ∀ q : Nat, q = t0 → Z.1 q) (hi : i < 15) : Met l yX3_takeOne wsX3_takeOne { frames := 4, cells := 0, slots := 0, locals := 106 } (aP G Z [.ref t0, .ref (zK Z i)] (fun H => TpAt G t0 t1 (sz, pl, bt) H)) (wrQ (some (.int ((q_takeOne sz bt i pl).1))) (fun H => TpAt G t0 t1 (sz, (q_takeOne sz bt i pl).2, bt) H) (fun q => q = t0)) 0 0 (fun q => q = t0) := by
  refine Met.ofW (cc := cX3_takeOne) (maxL := 4) (ret := (some .int)) (by decide) rfl ?_
  intro p e s m args below meth c s₁ Bd hml hv
  obtain ⟨rfl, hK, hZ, hB⟩ := hv
  have hx := Bd.exec
  have hb := Bd.bytes
  have hr := Bd.returns
  have hts := atoms_spec (ws := wsX3_takeOne) Bd.pre
  have hown : s.vm.findClass RX3 = some m.cls := findClass_of_methodNamed Bd.named
  have hlocks := Bd.notSynchronized
  have hC : CallFix p m c cX3_takeOne 4 s _ wsX3_takeOne RX3 := ⟨hx, hb, hml, hown, hts⟩
  have hl := lv_entry ([.ref t0, .ref (zK Z i)]) (n := 4) (Nat.le_of_ble_eq_true rfl)
  rw [lg_entry_eq]
  generalize (lg_sl ([.ref t0, .ref (zK Z i)]) ++ List.replicate (4 - (lg_sl ([.ref t0, .ref (zK Z i)])).length) Slot.unset).toArray = ls at hl ⊢
  have hl : lv_has ls 4 [(0, .ref t0), (1, .ref (zK Z i))] := hl
  have hS : wS (fun q => q = t0) s.heap s.heap [] := wS.rf
  have f_s := hB
  refine lv_aload_n hx hb dX3_takeOne_0 rfl (lv_at hl 0 rfl) ?_
  refine r_get (C := RX3) (T := TX3) (N := 3) hx hb hts i_X3_takeOne_X3 hown hK f_s.1 rfl 2 (by decide) k_X3_takeOne_fieldLink_30 rfl rfl dX3_takeOne_1 ?_
  refine join_wr (nL := 4) 32 [(0, .ref t0), (1, .ref (zK Z i))] [.int (b2i (if (nI pl) < 0 then false else if (nI sz) ≤ (nI pl) then false else if 120 ≤ (nI pl) then false else true))] (fun H locs => (TpAt G t0 t1 (sz, pl, bt) H) ∧ wS (fun q => q = t0) s.heap H locs ∧ amK Z s H) (fun H locs hI ls hl => ?_) (fun J_1 => ?_)
  · obtain ⟨f_s, hS, hZ⟩ := hI
    refine lv_istore_n (lv' := [(2, .int (b2i (if (nI pl) < 0 then false else if (nI sz) ≤ (nI pl) then false else if 120 ≤ (nI pl) then false else true))), (0, .ref t0), (1, .ref (zK Z i))]) hx hb dX3_takeOne_32 rfl hl (by decide) rfl (fun ls hl => ?_)
    refine lv_iload_n hx hb dX3_takeOne_33 rfl (lv_at hl 0 rfl) ?_
    refine join_wr (nL := 4) 59 [(2, .int (b2i (if (nI pl) < 0 then false else if (nI sz) ≤ (nI pl) then false else if 120 ≤ (nI pl) then false else true))), (0, .ref t0), (1, .ref (zK Z i))] [.int (if (if (nI pl) < 0 then false else if (nI sz) ≤ (nI pl) then false else if 120 ≤ (nI pl) then false else true) = true then j_ix i (byN (bt (nI pl).toNatClampNeg)) (txB i).length 0 else (-1))] (fun H locs => (TpAt G t0 t1 (sz, pl, bt) H) ∧ wS (fun q => q = t0) s.heap H locs ∧ amK Z s H) (fun H locs hI ls hl => ?_) (fun J_2 => ?_)
    · obtain ⟨f_s, hS, hZ⟩ := hI
      refine lv_istore_n (lv' := [(3, .int (if (if (nI pl) < 0 then false else if (nI sz) ≤ (nI pl) then false else if 120 ≤ (nI pl) then false else true) = true then j_ix i (byN (bt (nI pl).toNatClampNeg)) (txB i).length 0 else (-1))), (2, .int (b2i (if (nI pl) < 0 then false else if (nI sz) ≤ (nI pl) then false else if 120 ≤ (nI pl) then false else true))), (0, .ref t0), (1, .ref (zK Z i))]) hx hb dX3_takeOne_59 rfl hl (by decide) rfl (fun ls hl => ?_)
      refine lv_iload_n hx hb dX3_takeOne_60 rfl (lv_at hl 0 rfl) ?_
      refine lv_if_lt (tgt := 74) hx hb dX3_takeOne_61 (by decide) (fun h_3 => ?_) (fun h_3 => ?_)
      · refine lv_iload_n hx hb dX3_takeOne_74 rfl (lv_at hl 0 rfl) ?_
        have hE9 : q_takeOne sz bt i pl = (if (if (nI pl) < 0 then false else if (nI sz) ≤ (nI pl) then false else if 120 ≤ (nI pl) then false else true) = true then j_ix i (byN (bt (nI pl).toNatClampNeg)) (txB i).length 0 else (-1), pl) := (by (try unfold q_takeOne); (repeat rw [if_pos h_3]); first | done | rfl)
        exact wr_iret hx hb hr hlocks dX3_takeOne_75 hS (by rw [hE9]; exact f_s) (by rw [hE9]; first | done | rfl)
      · refine lv_aload_n hx hb dX3_takeOne_64 rfl (lv_at hl 2 rfl) ?_
        refine lv_dup hx hb dX3_takeOne_65 rfl ?_
        refine r_get (C := RX3) (T := TX3) (N := 3) hx hb hts i_X3_takeOne_X3 hown hK f_s.1 rfl 2 (by decide) k_X3_takeOne_fieldLink_30 rfl rfl dX3_takeOne_66 ?_
        refine lv_iconst (v := 1) hx hb dX3_takeOne_69 (by decide) ?_
        refine lv_iadd hx hb dX3_takeOne_70 ?_
        refine w_put (C := RX3) (T := TX3) (N := 3) hx hb hts i_X3_takeOne_X3 tyX3 tyX3_ok nmX3 hown hK f_s.1 hS rfl rfl 2 (by decide) k_X3_takeOne_fieldLink_30 rfl rfl rfl rfl (Nat.le_of_ble_eq_true rfl) dX3_takeOne_71 (fun H locs hn hq hS => ?_)
        have hZ := hZ.put (hAZ _ rfl) hq
        have f_t : TpAt G t0 t1 (sz, pl + 1, bt) H := ⟨by rw [show nI (sz, pl + 1, bt).2.1 = nI pl + 1 from nI_succ _]; exact hn, f_s.2.1.kept (hq _ htt.symm), f_s.2.2.1, (q_more2 (found_more h_3) f_s.2.2.2)⟩
        have f_s := f_t
        refine lv_iload_n hx hb dX3_takeOne_74 rfl (lv_at hl 0 rfl) ?_
        have hE9 : q_takeOne sz bt i pl = (if (if (nI pl) < 0 then false else if (nI sz) ≤ (nI pl) then false else if 120 ≤ (nI pl) then false else true) = true then j_ix i (byN (bt (nI pl).toNatClampNeg)) (txB i).length 0 else (-1), (pl + 1)) := (by (try unfold q_takeOne); (repeat rw [if_neg h_3]); first | done | rfl)
        exact wr_iret hx hb hr hlocks dX3_takeOne_75 hS (by rw [hE9]; exact f_s) (by rw [hE9]; first | done | rfl)
    · refine bz_eq (tgt := 58) hx hb dX3_takeOne_34 (by decide) (fun h_4 => ?_) (fun h_4 => ?_)
      · refine lv_iconst (v := (-1)) hx hb dX3_takeOne_58 (by decide) ?_
        have hJ := J_2; (repeat rw [if_neg h_4] at hJ)
        first | exact hJ _ _ ⟨f_s, hS, hZ⟩ ls (lv_sub hl [0, 1, 2] rfl) | ((repeat rw [if_neg h_4] at hl); (repeat rw [if_neg h_4]); exact hJ _ _ ⟨f_s, hS, hZ⟩ ls (lv_sub hl [0, 1, 2] rfl))
      · refine lv_aload_n hx hb dX3_takeOne_37 rfl (lv_at hl 2 rfl) ?_
        refine lv_aload_n hx hb dX3_takeOne_38 rfl (lv_at hl 1 rfl) ?_
        refine r_get (C := RX3) (T := TX3) (N := 3) hx hb hts i_X3_takeOne_X3 hown hK f_s.1 rfl 0 (by decide) k_X3_takeOne_fieldLink_9 rfl rfl dX3_takeOne_39 ?_
        refine lv_aload_n hx hb dX3_takeOne_42 rfl (lv_at hl 1 rfl) ?_
        refine r_get (C := RX3) (T := TX3) (N := 3) hx hb hts i_X3_takeOne_X3 hown hK f_s.1 rfl 2 (by decide) k_X3_takeOne_fieldLink_30 rfl rfl dX3_takeOne_43 ?_
        refine r_bald hx hb hK f_s.2.1 (q_more h_4) dX3_takeOne_46 ?_
        refine lv_sipush (v := 255) hx hb dX3_takeOne_47 (by decide +kernel) ?_
        refine lv_iand hx hb dX3_takeOne_50 ?_
        refine lv_i2c (v := (((bt (nI pl).toNatClampNeg) &&& 255 : Int32).toUInt32 % 65536).toInt32) hx hb dX3_takeOne_51 rfl ?_
        refine lv_topi (fun z9 ez9 => ?_)
        have ez8 : z9 = nI (byN (bt (nI pl).toNatClampNeg)) := ez9.trans (byN_eq _)
        clear ez9
        subst ez8
        refine ro_call (va_runV (As := [.int (nI (byN (bt (nI pl).toNatClampNeg)))]) (rest := []) hC (c_J0_indexOf_0f7a4 l G Z i (byN (bt (nI pl).toNatClampNeg)) hi (byN_lt _)) (cwV 1 hts gX3_takeOne_J0_indexOf_0f7a4 rfl rfl rfl kd_J0_indexOf_0f7a4 ⟨Nat.le_of_ble_eq_true rfl, Nat.le_of_ble_eq_true rfl⟩) (a_preT hK hZ hi trivial) rfl rfl hl.1 rfl (lv_room (Nat.le_of_ble_eq_true rfl)) dX3_takeOne_52 ⟨Nat.zero_le _, Nat.zero_le _⟩) ?_
        refine lv_goto (tgt := 59) hx hb dX3_takeOne_55 (by decide) ?_
        have hJ := J_2; (repeat rw [if_pos h_4] at hJ)
        first | exact hJ _ _ ⟨f_s, hS, hZ⟩ ls (lv_sub hl [0, 1, 2] rfl) | ((repeat rw [if_pos h_4] at hl); (repeat rw [if_pos h_4]); exact hJ _ _ ⟨f_s, hS, hZ⟩ ls (lv_sub hl [0, 1, 2] rfl))
  · refine lv_if_lt (tgt := 31) hx hb dX3_takeOne_4 (by decide) (fun h_5 => ?_) (fun h_5 => ?_)
    · refine lv_iconst (v := 0) hx hb dX3_takeOne_31 (by decide) ?_
      have hJ := J_1; (repeat rw [if_pos h_5] at hJ)
      first | exact hJ _ _ ⟨f_s, hS, hZ⟩ ls (lv_sub hl [0, 1] rfl) | ((repeat rw [if_pos h_5] at hl); (repeat rw [if_pos h_5]); exact hJ _ _ ⟨f_s, hS, hZ⟩ ls (lv_sub hl [0, 1] rfl))
    · refine lv_aload_n hx hb dX3_takeOne_7 rfl (lv_at hl 0 rfl) ?_
      refine r_get (C := RX3) (T := TX3) (N := 3) hx hb hts i_X3_takeOne_X3 hown hK f_s.1 rfl 2 (by decide) k_X3_takeOne_fieldLink_30 rfl rfl dX3_takeOne_8 ?_
      refine lv_aload_n hx hb dX3_takeOne_11 rfl (lv_at hl 0 rfl) ?_
      refine r_get (C := RX3) (T := TX3) (N := 3) hx hb hts i_X3_takeOne_X3 hown hK f_s.1 rfl 1 (by decide) k_X3_takeOne_fieldLink_15 rfl rfl dX3_takeOne_12 ?_
      refine lv_icmp_ge (tgt := 31) hx hb dX3_takeOne_15 (by decide) (fun h_6 => ?_) (fun h_6 => ?_)
      · refine lv_iconst (v := 0) hx hb dX3_takeOne_31 (by decide) ?_
        have hJ := J_1; (repeat rw [if_neg h_5] at hJ); (repeat rw [if_pos h_6] at hJ)
        first | exact hJ _ _ ⟨f_s, hS, hZ⟩ ls (lv_sub hl [0, 1] rfl) | ((repeat rw [if_neg h_5] at hl); (repeat rw [if_pos h_6] at hl); (repeat rw [if_neg h_5]); (repeat rw [if_pos h_6]); exact hJ _ _ ⟨f_s, hS, hZ⟩ ls (lv_sub hl [0, 1] rfl))
      · refine lv_aload_n hx hb dX3_takeOne_18 rfl (lv_at hl 0 rfl) ?_
        refine r_get (C := RX3) (T := TX3) (N := 3) hx hb hts i_X3_takeOne_X3 hown hK f_s.1 rfl 2 (by decide) k_X3_takeOne_fieldLink_30 rfl rfl dX3_takeOne_19 ?_
        refine lv_bipush (v := 120) hx hb dX3_takeOne_22 (by decide +kernel) ?_
        refine lv_icmp_ge (tgt := 31) hx hb dX3_takeOne_24 (by decide) (fun h_7 => ?_) (fun h_7 => ?_)
        · refine lv_iconst (v := 0) hx hb dX3_takeOne_31 (by decide) ?_
          have hJ := J_1; (repeat rw [if_neg h_5] at hJ); (repeat rw [if_neg h_6] at hJ); (repeat rw [if_pos h_7] at hJ)
          first | exact hJ _ _ ⟨f_s, hS, hZ⟩ ls (lv_sub hl [0, 1] rfl) | ((repeat rw [if_neg h_5] at hl); (repeat rw [if_neg h_6] at hl); (repeat rw [if_pos h_7] at hl); (repeat rw [if_neg h_5]); (repeat rw [if_neg h_6]); (repeat rw [if_pos h_7]); exact hJ _ _ ⟨f_s, hS, hZ⟩ ls (lv_sub hl [0, 1] rfl))
        · refine lv_iconst (v := 1) hx hb dX3_takeOne_27 (by decide) ?_
          refine lv_goto (tgt := 32) hx hb dX3_takeOne_28 (by decide) ?_
          have hJ := J_1; (repeat rw [if_neg h_5] at hJ); (repeat rw [if_neg h_6] at hJ); (repeat rw [if_neg h_7] at hJ)
          first | exact hJ _ _ ⟨f_s, hS, hZ⟩ ls (lv_sub hl [0, 1] rfl) | ((repeat rw [if_neg h_5] at hl); (repeat rw [if_neg h_6] at hl); (repeat rw [if_neg h_7] at hl); (repeat rw [if_neg h_5]); (repeat rw [if_neg h_6]); (repeat rw [if_neg h_7]); exact hJ _ _ ⟨f_s, hS, hZ⟩ ls (lv_sub hl [0, 1] rfl))
theorem c2_X3_takeOne (l : Launch) (G : GG) (Z : AM) (t0 t1 sz : Nat) (bt : Nat → Int32) (pl : Nat) (i : Nat) (htt : t0 ≠ t1) (hAZ : ∀ q : Nat, q = t0 → Z.1 q) (hi : i < 15) (r9 : Int32) (pl9 : Nat) (hy9 : q_takeOne sz bt i pl = (r9, pl9)) : Met l yX3_takeOne wsX3_takeOne { frames := 4, cells := 0, slots := 0, locals := 106 } (aP G Z [.ref t0, .ref (zK Z i)] (fun H => TpAt G t0 t1 (sz, pl, bt) H)) (wrQ (some (.int r9)) (fun H => TpAt G t0 t1 (sz, pl9, bt) H) (fun q => q = t0)) 0 0 (fun q => q = t0) := by
  have h9 := c_X3_takeOne l G Z t0 t1 sz bt pl i htt hAZ hi
  rw [hy9] at h9
  exact h9
theorem kd_J0_charAt_5068e : yJ0_charAt_5068e.cls = RJ0 ∧ yJ0_charAt_5068e.cls ≠ "java/lang/invoke/MethodHandle" ∧ yJ0_charAt_5068e.cls ≠ "java/lang/invoke/VarHandle" ∧ (parseMethodDescriptor yJ0_charAt_5068e.desc).map (fun d => d.parameters.length) = some 1 := by decide +kernel
theorem kd_X3_take : yX3_take.cls = RX3 ∧ yX3_take.cls ≠ "java/lang/invoke/MethodHandle" ∧ yX3_take.cls ≠ "java/lang/invoke/VarHandle" ∧ (parseMethodDescriptor yX3_take.desc).map (fun d => d.parameters.length) = some 1 := by decide +kernel
def q_allGo (sz : Nat) (bt : Nat → Int32) (i : Nat) : Nat → Nat → Nat → Bool × Nat
  | 0, _, pl_k => (true, pl_k)
  | n + 1, k, pl_k => (match q_take sz bt (nI ((txB i).getD k 0)) pl_k with | (b_0, pl_0) => if b_0 = true then q_allGo sz bt i n (k + 1) pl_0 else (false, pl_0))
theorem q_allGo_0 (sz : Nat) (bt : Nat → Int32) (i : Nat) (k : Nat) (pl_k : Nat) : q_allGo sz bt i 0 k pl_k = ((true, pl_k)) := rfl
theorem q_allGo_s (sz : Nat) (bt : Nat → Int32) (i : Nat) (n k : Nat) (pl_k : Nat) : q_allGo sz bt i (n + 1) k pl_k = ((match q_take sz bt (nI ((txB i).getD k 0)) pl_k with | (b_0, pl_0) => if b_0 = true then q_allGo sz bt i n (k + 1) pl_0 else (false, pl_0))) := rfl
def q_takeAll (sz : Nat) (bt : Nat → Int32) (i : Nat) (pl : Nat) : Bool × Nat := q_allGo sz bt i ((txB i).length) 0 pl
set_option maxHeartbeats 4000000 in
set_option maxRecDepth 100000 in
theorem c_X3_takeAll (l : Launch) (G : GG) (Z : AM) (t0 t1 sz : Nat) (bt : Nat → Int32) (pl : Nat) (i : Nat) (htt : t0 ≠ t1) (hAZ : ∀ q : Nat, q = t0 → Z.1 q) (hi : i < 15) : Met l yX3_takeAll wsX3_takeAll { frames := 4, cells := 0, slots := 0, locals := 85 } (aP G Z [.ref t0, .ref (zK Z i)] (fun H => TpAt G t0 t1 (sz, pl, bt) H)) (wrQ (some (.int (b2i ((q_takeAll sz bt i pl).1)))) (fun H => TpAt G t0 t1 (sz, (q_takeAll sz bt i pl).2, bt) H) (fun q => q = t0)) 0 0 (fun q => q = t0) := by
  refine Met.ofW (cc := cX3_takeAll) (maxL := 3) (ret := (some .boolean)) (by decide) rfl ?_
  intro p e s m args below meth c s₁ Bd hml hv
  obtain ⟨rfl, hK, hZ, hB⟩ := hv
  have hx := Bd.exec
  have hb := Bd.bytes
  have hr := Bd.returns
  have hts := atoms_spec (ws := wsX3_takeAll) Bd.pre
  have hown : s.vm.findClass RX3 = some m.cls := findClass_of_methodNamed Bd.named
  have hlocks := Bd.notSynchronized
  have hC : CallFix p m c cX3_takeAll 3 s _ wsX3_takeAll RX3 := ⟨hx, hb, hml, hown, hts⟩
  have hl := lv_entry ([.ref t0, .ref (zK Z i)]) (n := 3) (Nat.le_of_ble_eq_true rfl)
  rw [lg_entry_eq]
  generalize (lg_sl ([.ref t0, .ref (zK Z i)]) ++ List.replicate (3 - (lg_sl ([.ref t0, .ref (zK Z i)])).length) Slot.unset).toArray = ls at hl ⊢
  have hl : lv_has ls 3 [(0, .ref t0), (1, .ref (zK Z i))] := hl
  have hS : wS (fun q => q = t0) s.heap s.heap [] := wS.rf
  have f_s := hB
  refine lv_iconst (v := 0) hx hb dX3_takeAll_0 (by decide) ?_
  refine lv_istore_n (lv' := [(2, .int 0), (0, .ref t0), (1, .ref (zK Z i))]) hx hb dX3_takeAll_1 rfl hl (by decide) rfl (fun ls hl => ?_)
  refine loop_wr (nL := 3) (α := Nat × Nat) (fun a9 => [(0, .ref t0), (1, .ref (zK Z i)), (2, .int (nI (a9.1)))]) (fun a9 H locs => (a9.1 ≤ (txB i).length ∧ q_allGo sz bt i (((txB i).length) - a9.1) a9.1 a9.2 = q_allGo sz bt i ((txB i).length) 0 pl) ∧ (TpAt G t0 t1 (sz, (a9.2), bt) H) ∧ wS (fun q => q = t0) s.heap H locs ∧ amK Z s H) (fun a9 => (txB i).length - a9.1) (0, pl) ⟨⟨(by first | exact Nat.zero_le _ | decide | omega), rfl⟩, f_s, hS, hZ⟩ (lv_sub hl [1, 2, 0] rfl) (fun a9 H locs hI9 ih_k ls hl => ?_)
  obtain ⟨k, pl_k⟩ := a9
  obtain ⟨hI9, f_s, hS, hZ⟩ := hI9
  have f_s : TpAt G t0 t1 (sz, pl_k, bt) H := f_s
  obtain ⟨hk_k, hV⟩ : k ≤ (txB i).length ∧ q_allGo sz bt i (((txB i).length) - k) k pl_k = q_allGo sz bt i ((txB i).length) 0 pl := hI9
  have hl : lv_has ls 3 [(0, .ref t0), (1, .ref (zK Z i)), (2, .int (nI k))] := hl
  refine lv_iload_n hx hb dX3_takeAll_2 rfl (lv_at hl 2 rfl) ?_
  refine lv_aload_n hx hb dX3_takeAll_3 rfl (lv_at hl 1 rfl) ?_
  refine ro_call (va_runV (As := []) (rest := [.int (nI k)]) hC (c_J0_length_8abf5 l G Z i hi) (cwV 0 hts gX3_takeAll_J0_length_8abf5 rfl rfl rfl kd_J0_length_8abf5 ⟨Nat.le_of_ble_eq_true rfl, Nat.le_of_ble_eq_true rfl⟩) (a_preT hK hZ hi trivial) rfl rfl hl.1 rfl (lv_room (Nat.le_of_ble_eq_true rfl)) dX3_takeAll_4 ⟨Nat.zero_le _, Nat.zero_le _⟩) ?_
  refine lv_icmp_ge (tgt := 30) hx hb dX3_takeAll_7 (by decide) (fun h_1 => ?_) (fun h_1 => ?_)
  · have hN_k : k = (txB i).length := ge_ex (N := (txB i).length) rfl h_1 hk_k (by have := txB_len i; omega)
    subst hN_k
    rw [Nat.sub_self] at hV
    refine lv_iconst (v := 1) hx hb dX3_takeAll_30 (by decide) ?_
    have hE9 : q_takeAll sz bt i pl = (true, pl_k) := (by (try unfold q_takeAll); rw [← hV, q_allGo_0]; first | done | rfl)
    exact wr_zret hx hb hr hlocks dX3_takeAll_31 hS (by rw [hE9]; exact f_s) (by rw [hE9]; first | done | rfl)
  · have hlt_k : k < (txB i).length := ge_in (N := (txB i).length) rfl h_1 hk_k (by have := txB_len i; omega)
    obtain ⟨n9, hn9⟩ : ∃ n9, ((txB i).length) - k = n9 + 1 := ⟨((txB i).length) - k - 1, by omega⟩
    rw [hn9] at hV
    refine lv_aload_n hx hb dX3_takeAll_10 rfl (lv_at hl 0 rfl) ?_
    refine lv_aload_n hx hb dX3_takeAll_11 rfl (lv_at hl 1 rfl) ?_
    refine lv_iload_n hx hb dX3_takeAll_12 rfl (lv_at hl 2 rfl) ?_
    refine ro_call (va_runV (As := [.int (nI k)]) (rest := [.ref t0]) hC (c_J0_charAt_5068e l G Z i k hi hlt_k) (cwV 1 hts gX3_takeAll_J0_charAt_5068e rfl rfl rfl kd_J0_charAt_5068e ⟨Nat.le_of_ble_eq_true rfl, Nat.le_of_ble_eq_true rfl⟩) (a_preT hK hZ hi trivial) rfl rfl hl.1 rfl (lv_room (Nat.le_of_ble_eq_true rfl)) dX3_takeAll_13 ⟨Nat.zero_le _, Nat.zero_le _⟩) ?_
    obtain ⟨⟨b_0, pl_0⟩, hy_0⟩ : ∃ z9, q_take sz bt (nI ((txB i).getD k 0)) pl_k = z9 := ⟨_, rfl⟩
    refine wr_call (va_runV (As := [.int (nI ((txB i).getD k 0))]) (rest := []) hC (c2_X3_take l G t0 t1 sz bt pl_k (nI ((txB i).getD k 0)) htt b_0 pl_0 hy_0) (cwV 1 hts gX3_takeAll_X3_take rfl rfl rfl kd_X3_take ⟨Nat.le_of_ble_eq_true rfl, Nat.le_of_ble_eq_true rfl⟩) (ro_preV hK f_s.1 rfl f_s) rfl rfl hl.1 rfl (lv_room (Nat.le_of_ble_eq_true rfl)) dX3_takeAll_16 ⟨Nat.zero_le _, Nat.zero_le _⟩) hS (fun q h => h) (fun H locs f_n hq hS => ?_)
    have hZ := hZ.kept (fun a9 h9 => hq a9 (fun z9 => h9 (hAZ a9 ((fun q h => h) a9 z9))))
    have f_s := f_n
    refine bz_ne (tgt := 24) hx hb dX3_takeAll_19 (by decide) (fun h_2 => ?_) (fun h_2 => ?_)
    · refine lv_iinc (v := (nI k) + 1) (lv' := [(2, .int ((nI k) + 1)), (0, .ref t0), (1, .ref (zK Z i))]) hx hb dX3_takeAll_24 hl (k := 2) rfl rfl (by decide) rfl (fun ls hl => ?_)
      refine lv_goto (tgt := 2) hx hb dX3_takeAll_27 (by decide) ?_
      have hE : q_allGo sz bt i n9 (k + 1) pl_0 = q_allGo sz bt i ((txB i).length) 0 pl := (by rw [← hV, q_allGo_s]; (try rw [hy_0]); (try dsimp only); (repeat rw [if_pos h_2]); first | done | rfl)
      refine ih_k ((k + 1, pl_0)) _ _ ⟨⟨(show k + 1 ≤ (txB i).length by omega), (by show q_allGo sz bt i (((txB i).length) - (k + 1)) (k + 1) pl_0 = _; rw [show ((txB i).length) - (k + 1) = n9 by omega]; exact hE)⟩, f_s, hS, hZ⟩ (show ((txB i).length) - (k + 1) < ((txB i).length) - k by omega) ls ?_
      show lv_has ls 3 [(0, .ref t0), (1, .ref (zK Z i)), (2, .int (nI (k + 1)))]
      rw [nI_succ]
      exact lv_sub hl [1, 2, 0] rfl
    · refine lv_iconst (v := 0) hx hb dX3_takeAll_22 (by decide) ?_
      have hE9 : q_takeAll sz bt i pl = (false, pl_0) := (by (try unfold q_takeAll); rw [← hV, q_allGo_s]; (repeat rw [if_neg h_1]); (try rw [hy_0]); (try dsimp only); (repeat rw [if_neg h_2]); first | done | rfl)
      exact wr_zret hx hb hr hlocks dX3_takeAll_23 hS (by rw [hE9]; exact f_s) (by rw [hE9]; first | done | rfl)
theorem c2_X3_takeAll (l : Launch) (G : GG) (Z : AM) (t0 t1 sz : Nat) (bt : Nat → Int32) (pl : Nat) (i : Nat) (htt : t0 ≠ t1) (hAZ : ∀ q : Nat, q = t0 → Z.1 q) (hi : i < 15) (b9 : Bool) (pl9 : Nat) (hy9 : q_takeAll sz bt i pl = (b9, pl9)) : Met l yX3_takeAll wsX3_takeAll { frames := 4, cells := 0, slots := 0, locals := 85 } (aP G Z [.ref t0, .ref (zK Z i)] (fun H => TpAt G t0 t1 (sz, pl, bt) H)) (wrQ (some (.int (b2i b9))) (fun H => TpAt G t0 t1 (sz, pl9, bt) H) (fun q => q = t0)) 0 0 (fun q => q = t0) := by
  have h9 := c_X3_takeAll l G Z t0 t1 sz bt pl i htt hAZ hi
  rw [hy9] at h9
  exact h9
theorem kd_X3_takeOne : yX3_takeOne.cls = RX3 ∧ yX3_takeOne.cls ≠ "java/lang/invoke/MethodHandle" ∧ yX3_takeOne.cls ≠ "java/lang/invoke/VarHandle" ∧ (parseMethodDescriptor yX3_takeOne.desc).map (fun d => d.parameters.length) = some 1 := by decide +kernel
def q_readNumber (sz : Nat) (bt : Nat → Int32) (pl : Nat) : Int32 × Nat := (match q_takeOne sz bt 8 pl with | (r_0, pl_0) => if r_0 ≤ 0 then (r_0, pl_0) else (match q_takeOne sz bt 8 pl_0 with | (r_1, pl_1) => if 0 ≤ r_1 then if (r_0 * 10) + r_1 ≤ 0 then ((r_0 * 10) + r_1, pl_1) else (match q_takeOne sz bt 8 pl_1 with | (r_2, pl_2) => if 0 ≤ r_2 then ((((r_0 * 10) + r_1) * 10) + r_2, pl_2) else ((r_0 * 10) + r_1, pl_2)) else (r_0, pl_1)))
set_option maxHeartbeats 4000000 in
set_option maxRecDepth 100000 in
theorem c_X3_readNumber (l : Launch) (G : GG) (Z : AM) (t0 t1 sz : Nat) (bt : Nat → Int32) (pl : Nat) (htt : t0 ≠ t1) (hAZ : ∀ q : Nat, q = t0 → Z.1 q) : Met l yX3_readNumber wsX3_readNumber { frames := 5, cells := 0, slots := 0, locals := 129 } (aP G Z [.ref t0] (fun H => TpAt G t0 t1 (sz, pl, bt) H)) (wrQ (some (.int ((q_readNumber sz bt pl).1))) (fun H => TpAt G t0 t1 (sz, (q_readNumber sz bt pl).2, bt) H) (fun q => q = t0)) 0 0 (fun q => q = t0) := by
  refine Met.ofW (cc := cX3_readNumber) (maxL := 4) (ret := (some .int)) (by decide) rfl ?_
  intro p e s m args below meth c s₁ Bd hml hv
  obtain ⟨rfl, hK, hZ, hB⟩ := hv
  have hx := Bd.exec
  have hb := Bd.bytes
  have hr := Bd.returns
  have hts := atoms_spec (ws := wsX3_readNumber) Bd.pre
  have hown : s.vm.findClass RX3 = some m.cls := findClass_of_methodNamed Bd.named
  have hlocks := Bd.notSynchronized
  have hC : CallFix p m c cX3_readNumber 4 s _ wsX3_readNumber RX3 := ⟨hx, hb, hml, hown, hts⟩
  have hl := lv_entry ([.ref t0]) (n := 4) (Nat.le_of_ble_eq_true rfl)
  rw [lg_entry_eq]
  generalize (lg_sl ([.ref t0]) ++ List.replicate (4 - (lg_sl ([.ref t0])).length) Slot.unset).toArray = ls at hl ⊢
  have hl : lv_has ls 4 [(0, .ref t0)] := hl
  have hS : wS (fun q => q = t0) s.heap s.heap [] := wS.rf
  have f_s := hB
  refine lv_aload_n hx hb dX3_readNumber_0 rfl (lv_at hl 0 rfl) ?_
  refine va_ldcS hx hb hown (hZ.2.2.2.2.2 8 (by decide)) dX3_readNumber_1 ?_
  obtain ⟨⟨r_0, pl_0⟩, hy_0⟩ : ∃ z9, q_takeOne sz bt 8 pl = z9 := ⟨_, rfl⟩
  refine wr_call (va_runV (As := [.ref (zK Z 8)]) (rest := []) hC (c2_X3_takeOne l G Z t0 t1 sz bt pl 8 htt (fun q h => hAZ q h) (by decide) r_0 pl_0 hy_0) (cwV 1 hts gX3_readNumber_X3_takeOne rfl rfl rfl kd_X3_takeOne ⟨Nat.le_of_ble_eq_true rfl, Nat.le_of_ble_eq_true rfl⟩) (a_preV hK hZ f_s.1 rfl f_s) rfl rfl hl.1 rfl (lv_room (Nat.le_of_ble_eq_true rfl)) dX3_readNumber_3 ⟨Nat.zero_le _, Nat.zero_le _⟩) hS (fun q h => h) (fun H locs f_n hq hS => ?_)
  have hZ := hZ.kept (fun a9 h9 => hq a9 (fun z9 => h9 (hAZ a9 ((fun q h => h) a9 z9))))
  have f_s := f_n
  refine lv_istore_n (lv' := [(1, .int r_0), (0, .ref t0)]) hx hb dX3_readNumber_6 rfl hl (by decide) rfl (fun ls hl => ?_)
  refine lv_iconst (v := 0) hx hb dX3_readNumber_7 (by decide) ?_
  refine lv_istore_n (lv' := [(2, .int 0), (1, .int r_0), (0, .ref t0)]) hx hb dX3_readNumber_8 rfl hl (by decide) rfl (fun ls hl => ?_)
  refine lv_iload_n hx hb dX3_readNumber_9 rfl (lv_at hl 0 rfl) ?_
  refine lv_iconst (v := 2) hx hb dX3_readNumber_10 (by decide) ?_
  refine lv_icmp_ge (tgt := 44) hx hb dX3_readNumber_11 (by decide) (fun h_1 => ?_) (fun h_1 => ?_)
  · exact absurd h_1 (by decide)
  · refine lv_iload_n hx hb dX3_readNumber_14 rfl (lv_at hl 1 rfl) ?_
    refine lv_if_le (tgt := 44) hx hb dX3_readNumber_15 (by decide) (fun h_2 => ?_) (fun h_2 => ?_)
    · refine lv_iload_n hx hb dX3_readNumber_44 rfl (lv_at hl 1 rfl) ?_
      have hE9 : q_readNumber sz bt pl = (r_0, pl_0) := (by (try unfold q_readNumber); (try rw [hy_0]); (try dsimp only); (repeat rw [if_neg h_1]); (repeat rw [if_pos h_2]); first | done | rfl)
      exact wr_iret hx hb hr hlocks dX3_readNumber_45 hS (by rw [hE9]; exact f_s) (by rw [hE9]; first | done | rfl)
    · refine lv_aload_n hx hb dX3_readNumber_18 rfl (lv_at hl 2 rfl) ?_
      refine va_ldcS hx hb hown (hZ.2.2.2.2.2 8 (by decide)) dX3_readNumber_19 ?_
      obtain ⟨⟨r_1, pl_1⟩, hy_1⟩ : ∃ z9, q_takeOne sz bt 8 pl_0 = z9 := ⟨_, rfl⟩
      refine wr_call (va_runV (As := [.ref (zK Z 8)]) (rest := []) hC (c2_X3_takeOne l G Z t0 t1 sz bt pl_0 8 htt (fun q h => hAZ q h) (by decide) r_1 pl_1 hy_1) (cwV 1 hts gX3_readNumber_X3_takeOne rfl rfl rfl kd_X3_takeOne ⟨Nat.le_of_ble_eq_true rfl, Nat.le_of_ble_eq_true rfl⟩) (a_preV hK hZ f_s.1 rfl f_s) rfl rfl hl.1 rfl (lv_room (Nat.le_of_ble_eq_true rfl)) dX3_readNumber_21 ⟨Nat.zero_le _, Nat.zero_le _⟩) hS (fun q h => h) (fun H locs f_n hq hS => ?_)
      have hZ := hZ.kept (fun a9 h9 => hq a9 (fun z9 => h9 (hAZ a9 ((fun q h => h) a9 z9))))
      have f_s := f_n
      refine lv_istore_n (lv' := [(3, .int r_1), (2, .int 0), (1, .int r_0), (0, .ref t0)]) hx hb dX3_readNumber_24 rfl hl (by decide) rfl (fun ls hl => ?_)
      refine lv_iload_n hx hb dX3_readNumber_25 rfl (lv_at hl 0 rfl) ?_
      refine lv_if_ge (tgt := 31) hx hb dX3_readNumber_26 (by decide) (fun h_3 => ?_) (fun h_3 => ?_)
      · refine lv_iload_n hx hb dX3_readNumber_31 rfl (lv_at hl 2 rfl) ?_
        refine lv_bipush (v := 10) hx hb dX3_readNumber_32 (by decide +kernel) ?_
        refine lv_imul hx hb dX3_readNumber_34 ?_
        refine lv_iload_n hx hb dX3_readNumber_35 rfl (lv_at hl 0 rfl) ?_
        refine lv_iadd hx hb dX3_readNumber_36 ?_
        refine lv_istore_n (lv' := [(1, .int ((r_0 * 10) + r_1)), (3, .int r_1), (2, .int 0), (0, .ref t0)]) hx hb dX3_readNumber_37 rfl hl (by decide) rfl (fun ls hl => ?_)
        refine lv_iinc (v := 1) (lv' := [(2, .int 1), (1, .int ((r_0 * 10) + r_1)), (3, .int r_1), (0, .ref t0)]) hx hb dX3_readNumber_38 hl (k := 2) rfl (by decide) (by decide) rfl (fun ls hl => ?_)
        refine lv_goto (tgt := 9) hx hb dX3_readNumber_41 (by decide) ?_
        refine lv_iload_n hx hb dX3_readNumber_9 rfl (lv_at hl 0 rfl) ?_
        refine lv_iconst (v := 2) hx hb dX3_readNumber_10 (by decide) ?_
        refine lv_icmp_ge (tgt := 44) hx hb dX3_readNumber_11 (by decide) (fun h_4 => ?_) (fun h_4 => ?_)
        · exact absurd h_4 (by decide)
        · refine lv_iload_n hx hb dX3_readNumber_14 rfl (lv_at hl 1 rfl) ?_
          refine lv_if_le (tgt := 44) hx hb dX3_readNumber_15 (by decide) (fun h_5 => ?_) (fun h_5 => ?_)
          · refine lv_iload_n hx hb dX3_readNumber_44 rfl (lv_at hl 1 rfl) ?_
            have hE9 : q_readNumber sz bt pl = ((r_0 * 10) + r_1, pl_1) := (by (try unfold q_readNumber); (try rw [hy_0]); (try dsimp only); (repeat rw [if_neg h_1]); (repeat rw [if_neg h_2]); (try rw [hy_1]); (try dsimp only); (repeat rw [if_pos h_3]); (repeat rw [if_neg h_4]); (repeat rw [if_pos h_5]); first | done | rfl)
            exact wr_iret hx hb hr hlocks dX3_readNumber_45 hS (by rw [hE9]; exact f_s) (by rw [hE9]; first | done | rfl)
          · refine lv_aload_n hx hb dX3_readNumber_18 rfl (lv_at hl 3 rfl) ?_
            refine va_ldcS hx hb hown (hZ.2.2.2.2.2 8 (by decide)) dX3_readNumber_19 ?_
            obtain ⟨⟨r_2, pl_2⟩, hy_2⟩ : ∃ z9, q_takeOne sz bt 8 pl_1 = z9 := ⟨_, rfl⟩
            refine wr_call (va_runV (As := [.ref (zK Z 8)]) (rest := []) hC (c2_X3_takeOne l G Z t0 t1 sz bt pl_1 8 htt (fun q h => hAZ q h) (by decide) r_2 pl_2 hy_2) (cwV 1 hts gX3_readNumber_X3_takeOne rfl rfl rfl kd_X3_takeOne ⟨Nat.le_of_ble_eq_true rfl, Nat.le_of_ble_eq_true rfl⟩) (a_preV hK hZ f_s.1 rfl f_s) rfl rfl hl.1 rfl (lv_room (Nat.le_of_ble_eq_true rfl)) dX3_readNumber_21 ⟨Nat.zero_le _, Nat.zero_le _⟩) hS (fun q h => h) (fun H locs f_n hq hS => ?_)
            have hZ := hZ.kept (fun a9 h9 => hq a9 (fun z9 => h9 (hAZ a9 ((fun q h => h) a9 z9))))
            have f_s := f_n
            refine lv_istore_n (lv' := [(3, .int r_2), (2, .int 1), (1, .int ((r_0 * 10) + r_1)), (0, .ref t0)]) hx hb dX3_readNumber_24 rfl hl (by decide) rfl (fun ls hl => ?_)
            refine lv_iload_n hx hb dX3_readNumber_25 rfl (lv_at hl 0 rfl) ?_
            refine lv_if_ge (tgt := 31) hx hb dX3_readNumber_26 (by decide) (fun h_6 => ?_) (fun h_6 => ?_)
            · refine lv_iload_n hx hb dX3_readNumber_31 rfl (lv_at hl 2 rfl) ?_
              refine lv_bipush (v := 10) hx hb dX3_readNumber_32 (by decide +kernel) ?_
              refine lv_imul hx hb dX3_readNumber_34 ?_
              refine lv_iload_n hx hb dX3_readNumber_35 rfl (lv_at hl 0 rfl) ?_
              refine lv_iadd hx hb dX3_readNumber_36 ?_
              refine lv_istore_n (lv' := [(1, .int ((((r_0 * 10) + r_1) * 10) + r_2)), (3, .int r_2), (2, .int 1), (0, .ref t0)]) hx hb dX3_readNumber_37 rfl hl (by decide) rfl (fun ls hl => ?_)
              refine lv_iinc (v := 2) (lv' := [(2, .int 2), (1, .int ((((r_0 * 10) + r_1) * 10) + r_2)), (3, .int r_2), (0, .ref t0)]) hx hb dX3_readNumber_38 hl (k := 2) rfl (by decide) (by decide) rfl (fun ls hl => ?_)
              refine lv_goto (tgt := 9) hx hb dX3_readNumber_41 (by decide) ?_
              refine lv_iload_n hx hb dX3_readNumber_9 rfl (lv_at hl 0 rfl) ?_
              refine lv_iconst (v := 2) hx hb dX3_readNumber_10 (by decide) ?_
              refine lv_icmp_ge (tgt := 44) hx hb dX3_readNumber_11 (by decide) (fun h_7 => ?_) (fun h_7 => ?_)
              · refine lv_iload_n hx hb dX3_readNumber_44 rfl (lv_at hl 1 rfl) ?_
                have hE9 : q_readNumber sz bt pl = ((((r_0 * 10) + r_1) * 10) + r_2, pl_2) := (by (try unfold q_readNumber); (try rw [hy_0]); (try dsimp only); (repeat rw [if_neg h_1]); (repeat rw [if_neg h_2]); (try rw [hy_1]); (try dsimp only); (repeat rw [if_pos h_3]); (repeat rw [if_neg h_4]); (repeat rw [if_neg h_5]); (try rw [hy_2]); (try dsimp only); (repeat rw [if_pos h_6]); (repeat rw [if_pos h_7]); first | done | rfl)
                exact wr_iret hx hb hr hlocks dX3_readNumber_45 hS (by rw [hE9]; exact f_s) (by rw [hE9]; first | done | rfl)
              · exact absurd (by decide) h_7
            · refine lv_iload_n hx hb dX3_readNumber_29 rfl (lv_at hl 2 rfl) ?_
              have hE9 : q_readNumber sz bt pl = ((r_0 * 10) + r_1, pl_2) := (by (try unfold q_readNumber); (try rw [hy_0]); (try dsimp only); (repeat rw [if_neg h_1]); (repeat rw [if_neg h_2]); (try rw [hy_1]); (try dsimp only); (repeat rw [if_pos h_3]); (repeat rw [if_neg h_4]); (repeat rw [if_neg h_5]); (try rw [hy_2]); (try dsimp only); (repeat rw [if_neg h_6]); first | done | rfl)
              exact wr_iret hx hb hr hlocks dX3_readNumber_30 hS (by rw [hE9]; exact f_s) (by rw [hE9]; first | done | rfl)
      · refine lv_iload_n hx hb dX3_readNumber_29 rfl (lv_at hl 2 rfl) ?_
        have hE9 : q_readNumber sz bt pl = (r_0, pl_1) := (by (try unfold q_readNumber); (try rw [hy_0]); (try dsimp only); (repeat rw [if_neg h_1]); (repeat rw [if_neg h_2]); (try rw [hy_1]); (try dsimp only); (repeat rw [if_neg h_3]); first | done | rfl)
        exact wr_iret hx hb hr hlocks dX3_readNumber_30 hS (by rw [hE9]; exact f_s) (by rw [hE9]; first | done | rfl)
theorem c2_X3_readNumber (l : Launch) (G : GG) (Z : AM) (t0 t1 sz : Nat) (bt : Nat → Int32) (pl : Nat) (htt : t0 ≠ t1) (hAZ : ∀ q : Nat, q = t0 → Z.1 q) (r9 : Int32) (pl9 : Nat) (hy9 : q_readNumber sz bt pl = (r9, pl9)) : Met l yX3_readNumber wsX3_readNumber { frames := 5, cells := 0, slots := 0, locals := 129 } (aP G Z [.ref t0] (fun H => TpAt G t0 t1 (sz, pl, bt) H)) (wrQ (some (.int r9)) (fun H => TpAt G t0 t1 (sz, pl9, bt) H) (fun q => q = t0)) 0 0 (fun q => q = t0) := by
  have h9 := c_X3_readNumber l G Z t0 t1 sz bt pl htt hAZ
  rw [hy9] at h9
  exact h9

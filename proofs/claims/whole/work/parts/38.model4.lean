theorem i_X6_letter_X6 : ∀ w ∈ wsX60, w ∈ wsX6_letter := fun _ h => List.mem_cons_of_mem _ (List.mem_append_right _ h)
theorem k_X6_letter_fieldLink_9 : Cond.fieldLink RX6 9 "SameWaterModel" "s" "[I" ∈ wsX6_letter := by decide +kernel
def r_letter (x : MT) (which : Int32) (aa : Int32) (gg : Int32) : Int32 := if which = 0 then gg else if which = 1 then (mS x) (170 + aa).toNatClampNeg else if which = 2 then (mS x) (186 + aa).toNatClampNeg else if which = 3 then (mS x) (202 + aa).toNatClampNeg else if which = 4 then (mS x) (218 + aa).toNatClampNeg else if which = 5 then (mS x) (234 + aa).toNatClampNeg else b2i (if (mS x) (266 + aa).toNatClampNeg = 0 then false else true)
set_option maxHeartbeats 4000000 in
set_option maxRecDepth 100000 in
theorem c_X6_letter (l : Launch) (G : GG) (M : Nat → Nat) (x : MT) (which : Int32) (aa : Int32) (gg : Int32)  (hI : mI (mS x)) (hO : mO (mS x)) (iA : ib 0 15 aa) : Met l yX6_letter wsX6_letter { frames := 0, cells := 0, slots := 0, locals := 0 } (roP G [.ref (M 0), .int which, .int aa, .int gg] (fun H => MAt G M x H)) (roQ (some (.int (r_letter x which aa gg)))) 0 0 nF := by
  refine Met.ofW (cc := cX6_letter) (maxL := 4) (ret := (some .int)) (by decide) rfl ?_
  intro p e s m args below meth c s₁ Bd hml hv
  obtain ⟨rfl, hK, hB⟩ := hv
  have hx := Bd.exec
  have hb := Bd.bytes
  have hr := Bd.returns
  have hts := atoms_spec (ws := wsX6_letter) Bd.pre
  have hown : s.vm.findClass RX6 = some m.cls := findClass_of_methodNamed Bd.named
  have hlocks := Bd.notSynchronized
  have hC : CallFix p m c cX6_letter 4 s _ wsX6_letter RX6 := ⟨hx, hb, hml, hown, hts⟩
  have hl := lv_entry ([.ref (M 0), .int which, .int aa, .int gg]) (n := 4) (Nat.le_of_ble_eq_true rfl)
  rw [lg_entry_eq]
  generalize (lg_sl ([.ref (M 0), .int which, .int aa, .int gg]) ++ List.replicate (4 - (lg_sl ([.ref (M 0), .int which, .int aa, .int gg])).length) Slot.unset).toArray = ls at hl ⊢
  have hl : lv_has ls 4 [(0, .ref (M 0)), (1, .int which), (2, .int aa), (3, .int gg)] := hl
  refine lv_iload_n hx hb dX6_letter_0 rfl (lv_at hl 1 rfl) ?_
  rcases Classical.em (which = 0) with h_1 | h_1
  · refine lv_tableIn (off := 39) (tgt := 40) hx hb dX6_letter_1 (by rw [h_1]; decide) (by rw [h_1]; decide) (by rw [h_1]; rfl) (by decide) ?_
    refine lv_iload_n hx hb dX6_letter_40 rfl (lv_at hl 3 rfl) ?_
    exact ro_iret hx hb hr hlocks dX6_letter_41 (by (try unfold r_letter); (repeat rw [if_pos h_1]); first | done | rfl)
  · rcases Classical.em (which = 1) with h_2 | h_2
    · refine lv_tableIn (off := 41) (tgt := 42) hx hb dX6_letter_1 (by rw [h_2]; decide) (by rw [h_2]; decide) (by rw [h_2]; rfl) (by decide) ?_
      refine lv_aload_n hx hb dX6_letter_42 rfl (lv_at hl 0 rfl) ?_
      refine r_get (C := RX6) (T := TX6) (N := 18) hx hb hts i_X6_letter_X6 hown hK hB.1 rfl 1 (by decide) k_X6_letter_fieldLink_9 rfl rfl dX6_letter_43 ?_
      refine lv_sipush (v := 170) hx hb dX6_letter_46 (by decide +kernel) ?_
      refine lv_iload_n hx hb dX6_letter_49 rfl (lv_at hl 2 rfl) ?_
      refine lv_iadd hx hb dX6_letter_50 ?_
      refine r_iald hx hb hK hB.2.1 (vp_ib (lo := 170) (hi := 185) (ib_add (ib_nI (n := 170) (by decide)) iA (by decide) (by decide)) (by decide) (by decide)) dX6_letter_51 ?_
      exact ro_iret hx hb hr hlocks dX6_letter_52 (by (try unfold r_letter); (repeat rw [if_neg h_1]); (repeat rw [if_pos h_2]); first | done | rfl)
    · rcases Classical.em (which = 2) with h_3 | h_3
      · refine lv_tableIn (off := 52) (tgt := 53) hx hb dX6_letter_1 (by rw [h_3]; decide) (by rw [h_3]; decide) (by rw [h_3]; rfl) (by decide) ?_
        refine lv_aload_n hx hb dX6_letter_53 rfl (lv_at hl 0 rfl) ?_
        refine r_get (C := RX6) (T := TX6) (N := 18) hx hb hts i_X6_letter_X6 hown hK hB.1 rfl 1 (by decide) k_X6_letter_fieldLink_9 rfl rfl dX6_letter_54 ?_
        refine lv_sipush (v := 186) hx hb dX6_letter_57 (by decide +kernel) ?_
        refine lv_iload_n hx hb dX6_letter_60 rfl (lv_at hl 2 rfl) ?_
        refine lv_iadd hx hb dX6_letter_61 ?_
        refine r_iald hx hb hK hB.2.1 (vp_ib (lo := 186) (hi := 201) (ib_add (ib_nI (n := 186) (by decide)) iA (by decide) (by decide)) (by decide) (by decide)) dX6_letter_62 ?_
        exact ro_iret hx hb hr hlocks dX6_letter_63 (by (try unfold r_letter); (repeat rw [if_neg h_1]); (repeat rw [if_neg h_2]); (repeat rw [if_pos h_3]); first | done | rfl)
      · rcases Classical.em (which = 3) with h_4 | h_4
        · refine lv_tableIn (off := 63) (tgt := 64) hx hb dX6_letter_1 (by rw [h_4]; decide) (by rw [h_4]; decide) (by rw [h_4]; rfl) (by decide) ?_
          refine lv_aload_n hx hb dX6_letter_64 rfl (lv_at hl 0 rfl) ?_
          refine r_get (C := RX6) (T := TX6) (N := 18) hx hb hts i_X6_letter_X6 hown hK hB.1 rfl 1 (by decide) k_X6_letter_fieldLink_9 rfl rfl dX6_letter_65 ?_
          refine lv_sipush (v := 202) hx hb dX6_letter_68 (by decide +kernel) ?_
          refine lv_iload_n hx hb dX6_letter_71 rfl (lv_at hl 2 rfl) ?_
          refine lv_iadd hx hb dX6_letter_72 ?_
          refine r_iald hx hb hK hB.2.1 (vp_ib (lo := 202) (hi := 217) (ib_add (ib_nI (n := 202) (by decide)) iA (by decide) (by decide)) (by decide) (by decide)) dX6_letter_73 ?_
          exact ro_iret hx hb hr hlocks dX6_letter_74 (by (try unfold r_letter); (repeat rw [if_neg h_1]); (repeat rw [if_neg h_2]); (repeat rw [if_neg h_3]); (repeat rw [if_pos h_4]); first | done | rfl)
        · rcases Classical.em (which = 4) with h_5 | h_5
          · refine lv_tableIn (off := 74) (tgt := 75) hx hb dX6_letter_1 (by rw [h_5]; decide) (by rw [h_5]; decide) (by rw [h_5]; rfl) (by decide) ?_
            refine lv_aload_n hx hb dX6_letter_75 rfl (lv_at hl 0 rfl) ?_
            refine r_get (C := RX6) (T := TX6) (N := 18) hx hb hts i_X6_letter_X6 hown hK hB.1 rfl 1 (by decide) k_X6_letter_fieldLink_9 rfl rfl dX6_letter_76 ?_
            refine lv_sipush (v := 218) hx hb dX6_letter_79 (by decide +kernel) ?_
            refine lv_iload_n hx hb dX6_letter_82 rfl (lv_at hl 2 rfl) ?_
            refine lv_iadd hx hb dX6_letter_83 ?_
            refine r_iald hx hb hK hB.2.1 (vp_ib (lo := 218) (hi := 233) (ib_add (ib_nI (n := 218) (by decide)) iA (by decide) (by decide)) (by decide) (by decide)) dX6_letter_84 ?_
            exact ro_iret hx hb hr hlocks dX6_letter_85 (by (try unfold r_letter); (repeat rw [if_neg h_1]); (repeat rw [if_neg h_2]); (repeat rw [if_neg h_3]); (repeat rw [if_neg h_4]); (repeat rw [if_pos h_5]); first | done | rfl)
          · rcases Classical.em (which = 5) with h_6 | h_6
            · refine lv_tableIn (off := 85) (tgt := 86) hx hb dX6_letter_1 (by rw [h_6]; decide) (by rw [h_6]; decide) (by rw [h_6]; rfl) (by decide) ?_
              refine lv_aload_n hx hb dX6_letter_86 rfl (lv_at hl 0 rfl) ?_
              refine r_get (C := RX6) (T := TX6) (N := 18) hx hb hts i_X6_letter_X6 hown hK hB.1 rfl 1 (by decide) k_X6_letter_fieldLink_9 rfl rfl dX6_letter_87 ?_
              refine lv_sipush (v := 234) hx hb dX6_letter_90 (by decide +kernel) ?_
              refine lv_iload_n hx hb dX6_letter_93 rfl (lv_at hl 2 rfl) ?_
              refine lv_iadd hx hb dX6_letter_94 ?_
              refine r_iald hx hb hK hB.2.1 (vp_ib (lo := 234) (hi := 249) (ib_add (ib_nI (n := 234) (by decide)) iA (by decide) (by decide)) (by decide) (by decide)) dX6_letter_95 ?_
              exact ro_iret hx hb hr hlocks dX6_letter_96 (by (try unfold r_letter); (repeat rw [if_neg h_1]); (repeat rw [if_neg h_2]); (repeat rw [if_neg h_3]); (repeat rw [if_neg h_4]); (repeat rw [if_neg h_5]); (repeat rw [if_pos h_6]); first | done | rfl)
            · refine lv_tableOut (tgt := 97) hx hb dX6_letter_1 (by have z0 := lv_neT h_1 (a := 0) rfl; have z1 := lv_neT h_2 (a := 1) rfl; have z2 := lv_neT h_3 (a := 2) rfl; have z3 := lv_neT h_4 (a := 3) rfl; have z4 := lv_neT h_5 (a := 4) rfl; have z5 := lv_neT h_6 (a := 5) rfl; omega) (by decide) ?_
              refine lv_aload_n hx hb dX6_letter_97 rfl (lv_at hl 0 rfl) ?_
              refine r_get (C := RX6) (T := TX6) (N := 18) hx hb hts i_X6_letter_X6 hown hK hB.1 rfl 1 (by decide) k_X6_letter_fieldLink_9 rfl rfl dX6_letter_98 ?_
              refine lv_sipush (v := 266) hx hb dX6_letter_101 (by decide +kernel) ?_
              refine lv_iload_n hx hb dX6_letter_104 rfl (lv_at hl 2 rfl) ?_
              refine lv_iadd hx hb dX6_letter_105 ?_
              refine r_iald hx hb hK hB.2.1 (vp_ib (lo := 266) (hi := 281) (ib_add (ib_nI (n := 266) (by decide)) iA (by decide) (by decide)) (by decide) (by decide)) dX6_letter_106 ?_
              refine join_at (nL := 4) 115 [(0, .ref (M 0)), (1, .int which), (2, .int aa), (3, .int gg)] [.int (b2i (if (mS x) (266 + aa).toNatClampNeg = 0 then false else true))] (fun ls hl => ?_) (fun J_7 => ?_)
              · exact ro_iret hx hb hr hlocks dX6_letter_115 (by (try unfold r_letter); (repeat rw [if_neg h_1]); (repeat rw [if_neg h_2]); (repeat rw [if_neg h_3]); (repeat rw [if_neg h_4]); (repeat rw [if_neg h_5]); (repeat rw [if_neg h_6]); first | done | rfl)
              · refine lv_if_ne (tgt := 114) hx hb dX6_letter_107 (by decide) (fun h_8 => ?_) (fun h_8 => ?_)
                · refine lv_iconst (v := 1) hx hb dX6_letter_114 (by decide) ?_
                  have hJ := J_7; (repeat rw [if_neg h_8] at hJ)
                  first | exact hJ ls (lv_sub hl [0, 1, 2, 3] rfl) | ((repeat rw [if_neg h_8] at hl); (repeat rw [if_neg h_8]); exact hJ ls (lv_sub hl [0, 1, 2, 3] rfl))
                · refine lv_iconst (v := 0) hx hb dX6_letter_110 (by decide) ?_
                  refine lv_goto (tgt := 115) hx hb dX6_letter_111 (by decide) ?_
                  have hJ := J_7; (repeat rw [if_pos h_8] at hJ)
                  first | exact hJ ls (lv_sub hl [0, 1, 2, 3] rfl) | ((repeat rw [if_pos h_8] at hl); (repeat rw [if_pos h_8]); exact hJ ls (lv_sub hl [0, 1, 2, 3] rfl))
theorem i_X6_byLooks_X6 : ∀ w ∈ wsX60, w ∈ wsX6_byLooks := fun _ h => List.mem_cons_of_mem _ (List.mem_append_right _ h)
theorem k_X6_byLooks_fieldLink_9 : Cond.fieldLink RX6 9 "SameWaterModel" "s" "[I" ∈ wsX6_byLooks := by decide +kernel
def r_byLooks (x : MT) (aa : Int32) (vv : Int32) : Int32 := if ((mS x) (250 + aa).toNatClampNeg) < (if vv = 0 then 1 else vv) then if (-(if vv = 0 then 1 else vv)) < ((mS x) (250 + aa).toNatClampNeg) then 1 else 0 else 2
set_option maxHeartbeats 4000000 in
set_option maxRecDepth 100000 in
theorem c_X6_byLooks (l : Launch) (G : GG) (M : Nat → Nat) (x : MT) (aa : Int32) (vv : Int32)  (hI : mI (mS x)) (hO : mO (mS x)) (iA : ib 0 15 aa) : Met l yX6_byLooks wsX6_byLooks { frames := 0, cells := 0, slots := 0, locals := 0 } (roP G [.ref (M 0), .int aa, .int vv] (fun H => MAt G M x H)) (roQ (some (.int (r_byLooks x aa vv)))) 0 0 nF := by
  refine Met.ofW (cc := cX6_byLooks) (maxL := 5) (ret := (some .int)) (by decide) rfl ?_
  intro p e s m args below meth c s₁ Bd hml hv
  obtain ⟨rfl, hK, hB⟩ := hv
  have hx := Bd.exec
  have hb := Bd.bytes
  have hr := Bd.returns
  have hts := atoms_spec (ws := wsX6_byLooks) Bd.pre
  have hown : s.vm.findClass RX6 = some m.cls := findClass_of_methodNamed Bd.named
  have hlocks := Bd.notSynchronized
  have hC : CallFix p m c cX6_byLooks 5 s _ wsX6_byLooks RX6 := ⟨hx, hb, hml, hown, hts⟩
  have hl := lv_entry ([.ref (M 0), .int aa, .int vv]) (n := 5) (Nat.le_of_ble_eq_true rfl)
  rw [lg_entry_eq]
  generalize (lg_sl ([.ref (M 0), .int aa, .int vv]) ++ List.replicate (5 - (lg_sl ([.ref (M 0), .int aa, .int vv])).length) Slot.unset).toArray = ls at hl ⊢
  have hl : lv_has ls 5 [(0, .ref (M 0)), (1, .int aa), (2, .int vv)] := hl
  refine lv_aload_n hx hb dX6_byLooks_0 rfl (lv_at hl 0 rfl) ?_
  refine r_get (C := RX6) (T := TX6) (N := 18) hx hb hts i_X6_byLooks_X6 hown hK hB.1 rfl 1 (by decide) k_X6_byLooks_fieldLink_9 rfl rfl dX6_byLooks_1 ?_
  refine lv_sipush (v := 250) hx hb dX6_byLooks_4 (by decide +kernel) ?_
  refine lv_iload_n hx hb dX6_byLooks_7 rfl (lv_at hl 1 rfl) ?_
  refine lv_iadd hx hb dX6_byLooks_8 ?_
  refine r_iald hx hb hK hB.2.1 (vp_ib (lo := 250) (hi := 265) (ib_add (ib_nI (n := 250) (by decide)) iA (by decide) (by decide)) (by decide) (by decide)) dX6_byLooks_9 ?_
  refine lv_istore_n (lv' := [(3, .int ((mS x) (250 + aa).toNatClampNeg)), (0, .ref (M 0)), (1, .int aa), (2, .int vv)]) hx hb dX6_byLooks_10 rfl hl (by decide) rfl (fun ls hl => ?_)
  refine lv_iload_n hx hb dX6_byLooks_11 rfl (lv_at hl 3 rfl) ?_
  refine join_at (nL := 5) 20 [(3, .int ((mS x) (250 + aa).toNatClampNeg)), (0, .ref (M 0)), (1, .int aa), (2, .int vv)] [.int (if vv = 0 then 1 else vv)] (fun ls hl => ?_) (fun J_1 => ?_)
  · refine lv_istore (lv' := [(4, .int (if vv = 0 then 1 else vv)), (3, .int ((mS x) (250 + aa).toNatClampNeg)), (0, .ref (M 0)), (1, .int aa), (2, .int vv)]) hx hb dX6_byLooks_20 hl (by decide) rfl (fun ls hl => ?_)
    refine lv_iload_n hx hb dX6_byLooks_22 rfl (lv_at hl 1 rfl) ?_
    refine lv_iload hx hb dX6_byLooks_23 (lv_at hl 0 rfl) ?_
    refine join_at (nL := 5) 44 [(4, .int (if vv = 0 then 1 else vv)), (3, .int ((mS x) (250 + aa).toNatClampNeg)), (0, .ref (M 0)), (1, .int aa), (2, .int vv)] [.int (if ((mS x) (250 + aa).toNatClampNeg) < (if vv = 0 then 1 else vv) then if (-(if vv = 0 then 1 else vv)) < ((mS x) (250 + aa).toNatClampNeg) then 1 else 0 else 2)] (fun ls hl => ?_) (fun J_2 => ?_)
    · exact ro_iret hx hb hr hlocks dX6_byLooks_44 rfl
    · refine lv_icmp_lt (tgt := 32) hx hb dX6_byLooks_25 (by decide) (fun h_3 => ?_) (fun h_3 => ?_)
      · refine lv_iload_n hx hb dX6_byLooks_32 rfl (lv_at hl 1 rfl) ?_
        refine lv_iload hx hb dX6_byLooks_33 (lv_at hl 0 rfl) ?_
        refine lv_ineg hx hb dX6_byLooks_35 ?_
        refine lv_icmp_gt (tgt := 43) hx hb dX6_byLooks_36 (by decide) (fun h_4 => ?_) (fun h_4 => ?_)
        · refine lv_iconst (v := 1) hx hb dX6_byLooks_43 (by decide) ?_
          have hJ := J_2; (repeat rw [if_pos h_3] at hJ); (repeat rw [if_pos h_4] at hJ)
          first | exact hJ ls (lv_sub hl [0, 1, 2, 3, 4] rfl) | ((repeat rw [if_pos h_3] at hl); (repeat rw [if_pos h_4] at hl); (repeat rw [if_pos h_3]); (repeat rw [if_pos h_4]); exact hJ ls (lv_sub hl [0, 1, 2, 3, 4] rfl))
        · refine lv_iconst (v := 0) hx hb dX6_byLooks_39 (by decide) ?_
          refine lv_goto (tgt := 44) hx hb dX6_byLooks_40 (by decide) ?_
          have hJ := J_2; (repeat rw [if_pos h_3] at hJ); (repeat rw [if_neg h_4] at hJ)
          first | exact hJ ls (lv_sub hl [0, 1, 2, 3, 4] rfl) | ((repeat rw [if_pos h_3] at hl); (repeat rw [if_neg h_4] at hl); (repeat rw [if_pos h_3]); (repeat rw [if_neg h_4]); exact hJ ls (lv_sub hl [0, 1, 2, 3, 4] rfl))
      · refine lv_iconst (v := 2) hx hb dX6_byLooks_28 (by decide) ?_
        refine lv_goto (tgt := 44) hx hb dX6_byLooks_29 (by decide) ?_
        have hJ := J_2; (repeat rw [if_neg h_3] at hJ)
        first | exact hJ ls (lv_sub hl [0, 1, 2, 3, 4] rfl) | ((repeat rw [if_neg h_3] at hl); (repeat rw [if_neg h_3]); exact hJ ls (lv_sub hl [0, 1, 2, 3, 4] rfl))
  · refine lv_if_ne (tgt := 19) hx hb dX6_byLooks_12 (by decide) (fun h_5 => ?_) (fun h_5 => ?_)
    · refine lv_iload_n hx hb dX6_byLooks_19 rfl (lv_at hl 3 rfl) ?_
      have hJ := J_1; (repeat rw [if_neg h_5] at hJ)
      first | exact hJ ls (lv_sub hl [0, 1, 2, 3] rfl) | ((repeat rw [if_neg h_5] at hl); (repeat rw [if_neg h_5]); exact hJ ls (lv_sub hl [0, 1, 2, 3] rfl))
    · refine lv_iconst (v := 1) hx hb dX6_byLooks_15 (by decide) ?_
      refine lv_goto (tgt := 20) hx hb dX6_byLooks_16 (by decide) ?_
      have hJ := J_1; (repeat rw [if_pos h_5] at hJ)
      first | exact hJ ls (lv_sub hl [0, 1, 2, 3] rfl) | ((repeat rw [if_pos h_5] at hl); (repeat rw [if_pos h_5]); exact hJ ls (lv_sub hl [0, 1, 2, 3] rfl))
theorem i_X6_byKeeping_X6 : ∀ w ∈ wsX60, w ∈ wsX6_byKeeping := fun _ h => List.mem_cons_of_mem _ (List.mem_append_right _ h)
theorem k_X6_byKeeping_fieldLink_9 : Cond.fieldLink RX6 9 "SameWaterModel" "s" "[I" ∈ wsX6_byKeeping := by decide +kernel
theorem kd_X6_byLooks : yX6_byLooks.cls = RX6 ∧ yX6_byLooks.cls ≠ "java/lang/invoke/MethodHandle" ∧ yX6_byLooks.cls ≠ "java/lang/invoke/VarHandle" ∧ (parseMethodDescriptor yX6_byLooks.desc).map (fun d => d.parameters.length) = some 2 := by decide +kernel
def r_byKeeping (x : MT) (aa : Int32) (kp : Bool) : Int32 := if kp = true then ((mS x) (266 + aa).toNatClampNeg) + 1 else r_byLooks x aa 0
set_option maxHeartbeats 4000000 in
set_option maxRecDepth 100000 in
theorem c_X6_byKeeping (l : Launch) (G : GG) (M : Nat → Nat) (x : MT) (aa : Int32) (kp : Bool)  (hI : mI (mS x)) (hO : mO (mS x)) (iA : ib 0 15 aa) : Met l yX6_byKeeping wsX6_byKeeping { frames := 1, cells := 0, slots := 0, locals := 24 } (roP G [.ref (M 0), .int aa, .int (b2i kp)] (fun H => MAt G M x H)) (roQ (some (.int (r_byKeeping x aa kp)))) 0 0 nF := by
  refine Met.ofW (cc := cX6_byKeeping) (maxL := 3) (ret := (some .int)) (by decide) rfl ?_
  intro p e s m args below meth c s₁ Bd hml hv
  obtain ⟨rfl, hK, hB⟩ := hv
  have hx := Bd.exec
  have hb := Bd.bytes
  have hr := Bd.returns
  have hts := atoms_spec (ws := wsX6_byKeeping) Bd.pre
  have hown : s.vm.findClass RX6 = some m.cls := findClass_of_methodNamed Bd.named
  have hlocks := Bd.notSynchronized
  have hC : CallFix p m c cX6_byKeeping 3 s _ wsX6_byKeeping RX6 := ⟨hx, hb, hml, hown, hts⟩
  have hl := lv_entry ([.ref (M 0), .int aa, .int (b2i kp)]) (n := 3) (Nat.le_of_ble_eq_true rfl)
  rw [lg_entry_eq]
  generalize (lg_sl ([.ref (M 0), .int aa, .int (b2i kp)]) ++ List.replicate (3 - (lg_sl ([.ref (M 0), .int aa, .int (b2i kp)])).length) Slot.unset).toArray = ls at hl ⊢
  have hl : lv_has ls 3 [(0, .ref (M 0)), (1, .int aa), (2, .int (b2i kp))] := hl
  refine lv_iload_n hx hb dX6_byKeeping_0 rfl (lv_at hl 2 rfl) ?_
  refine join_at (nL := 3) 25 [(0, .ref (M 0)), (1, .int aa), (2, .int (b2i kp))] [.int (if kp = true then ((mS x) (266 + aa).toNatClampNeg) + 1 else r_byLooks x aa 0)] (fun ls hl => ?_) (fun J_1 => ?_)
  · exact ro_iret hx hb hr hlocks dX6_byKeeping_25 rfl
  · refine bz_eq (tgt := 19) hx hb dX6_byKeeping_1 (by decide) (fun h_2 => ?_) (fun h_2 => ?_)
    · refine lv_aload_n hx hb dX6_byKeeping_19 rfl (lv_at hl 0 rfl) ?_
      refine lv_iload_n hx hb dX6_byKeeping_20 rfl (lv_at hl 1 rfl) ?_
      refine lv_iconst (v := 0) hx hb dX6_byKeeping_21 (by decide) ?_
      refine ro_call (va_runV (As := [.int aa, .int 0]) (rest := []) hC (c_X6_byLooks l G M x aa 0 hI hO (ib.weak iA (by decide) (by decide))) (cwV 2 hts gX6_byKeeping_X6_byLooks rfl rfl rfl kd_X6_byLooks ⟨Nat.le_of_ble_eq_true rfl, Nat.le_of_ble_eq_true rfl⟩) (ro_preV hK hB.1 rfl hB) rfl rfl hl.1 rfl (lv_room (Nat.le_of_ble_eq_true rfl)) dX6_byKeeping_22 ⟨Nat.zero_le _, Nat.zero_le _⟩) ?_
      have hJ := J_1; (repeat rw [if_neg h_2] at hJ)
      first | exact hJ ls (lv_sub hl [0, 1, 2] rfl) | ((repeat rw [if_neg h_2] at hl); (repeat rw [if_neg h_2]); exact hJ ls (lv_sub hl [0, 1, 2] rfl))
    · refine lv_aload_n hx hb dX6_byKeeping_4 rfl (lv_at hl 0 rfl) ?_
      refine r_get (C := RX6) (T := TX6) (N := 18) hx hb hts i_X6_byKeeping_X6 hown hK hB.1 rfl 1 (by decide) k_X6_byKeeping_fieldLink_9 rfl rfl dX6_byKeeping_5 ?_
      refine lv_sipush (v := 266) hx hb dX6_byKeeping_8 (by decide +kernel) ?_
      refine lv_iload_n hx hb dX6_byKeeping_11 rfl (lv_at hl 1 rfl) ?_
      refine lv_iadd hx hb dX6_byKeeping_12 ?_
      refine r_iald hx hb hK hB.2.1 (vp_ib (lo := 266) (hi := 281) (ib_add (ib_nI (n := 266) (by decide)) iA (by decide) (by decide)) (by decide) (by decide)) dX6_byKeeping_13 ?_
      refine lv_iconst (v := 1) hx hb dX6_byKeeping_14 (by decide) ?_
      refine lv_iadd hx hb dX6_byKeeping_15 ?_
      refine lv_goto (tgt := 25) hx hb dX6_byKeeping_16 (by decide) ?_
      have hJ := J_1; (repeat rw [if_pos h_2] at hJ)
      first | exact hJ ls (lv_sub hl [0, 1, 2] rfl) | ((repeat rw [if_pos h_2] at hl); (repeat rw [if_pos h_2]); exact hJ ls (lv_sub hl [0, 1, 2] rfl))
theorem i_X6_asked_X6 : ∀ w ∈ wsX60, w ∈ wsX6_asked := fun _ h => List.mem_cons_of_mem _ (List.mem_append_right _ h)
theorem k_X6_asked_fieldLink_9 : Cond.fieldLink RX6 9 "SameWaterModel" "s" "[I" ∈ wsX6_asked := by decide +kernel
def r_asked (x : MT) (aa : Int32) (tt : Int32) : Int32 := if (if ((mS x) (202 + aa).toNatClampNeg) = 2 then if (mS x) (186 + aa).toNatClampNeg = 0 then true else false else false) = true then if tt = 1 then r_byLooks x aa 0 else tt else tt
set_option maxHeartbeats 4000000 in
set_option maxRecDepth 100000 in
theorem c_X6_asked (l : Launch) (G : GG) (M : Nat → Nat) (x : MT) (aa : Int32) (tt : Int32)  (hI : mI (mS x)) (hO : mO (mS x)) (iA : ib 0 15 aa) : Met l yX6_asked wsX6_asked { frames := 1, cells := 0, slots := 0, locals := 24 } (roP G [.ref (M 0), .int aa, .int tt] (fun H => MAt G M x H)) (roQ (some (.int (r_asked x aa tt)))) 0 0 nF := by
  refine Met.ofW (cc := cX6_asked) (maxL := 4) (ret := (some .int)) (by decide) rfl ?_
  intro p e s m args below meth c s₁ Bd hml hv
  obtain ⟨rfl, hK, hB⟩ := hv
  have hx := Bd.exec
  have hb := Bd.bytes
  have hr := Bd.returns
  have hts := atoms_spec (ws := wsX6_asked) Bd.pre
  have hown : s.vm.findClass RX6 = some m.cls := findClass_of_methodNamed Bd.named
  have hlocks := Bd.notSynchronized
  have hC : CallFix p m c cX6_asked 4 s _ wsX6_asked RX6 := ⟨hx, hb, hml, hown, hts⟩
  have hl := lv_entry ([.ref (M 0), .int aa, .int tt]) (n := 4) (Nat.le_of_ble_eq_true rfl)
  rw [lg_entry_eq]
  generalize (lg_sl ([.ref (M 0), .int aa, .int tt]) ++ List.replicate (4 - (lg_sl ([.ref (M 0), .int aa, .int tt])).length) Slot.unset).toArray = ls at hl ⊢
  have hl : lv_has ls 4 [(0, .ref (M 0)), (1, .int aa), (2, .int tt)] := hl
  refine lv_aload_n hx hb dX6_asked_0 rfl (lv_at hl 0 rfl) ?_
  refine r_get (C := RX6) (T := TX6) (N := 18) hx hb hts i_X6_asked_X6 hown hK hB.1 rfl 1 (by decide) k_X6_asked_fieldLink_9 rfl rfl dX6_asked_1 ?_
  refine lv_sipush (v := 202) hx hb dX6_asked_4 (by decide +kernel) ?_
  refine lv_iload_n hx hb dX6_asked_7 rfl (lv_at hl 1 rfl) ?_
  refine lv_iadd hx hb dX6_asked_8 ?_
  refine r_iald hx hb hK hB.2.1 (vp_ib (lo := 202) (hi := 217) (ib_add (ib_nI (n := 202) (by decide)) iA (by decide) (by decide)) (by decide) (by decide)) dX6_asked_9 ?_
  refine lv_iconst (v := 2) hx hb dX6_asked_10 (by decide) ?_
  refine join_at (nL := 4) 32 [(0, .ref (M 0)), (1, .int aa), (2, .int tt)] [.int (b2i (if ((mS x) (202 + aa).toNatClampNeg) = 2 then if (mS x) (186 + aa).toNatClampNeg = 0 then true else false else false))] (fun ls hl => ?_) (fun J_1 => ?_)
  · refine lv_istore_n (lv' := [(3, .int (b2i (if ((mS x) (202 + aa).toNatClampNeg) = 2 then if (mS x) (186 + aa).toNatClampNeg = 0 then true else false else false))), (0, .ref (M 0)), (1, .int aa), (2, .int tt)]) hx hb dX6_asked_32 rfl hl (by decide) rfl (fun ls hl => ?_)
    refine lv_iload_n hx hb dX6_asked_33 rfl (lv_at hl 0 rfl) ?_
    refine join_at (nL := 4) 52 [(3, .int (b2i (if ((mS x) (202 + aa).toNatClampNeg) = 2 then if (mS x) (186 + aa).toNatClampNeg = 0 then true else false else false))), (0, .ref (M 0)), (1, .int aa), (2, .int tt)] [.int (if (if ((mS x) (202 + aa).toNatClampNeg) = 2 then if (mS x) (186 + aa).toNatClampNeg = 0 then true else false else false) = true then if tt = 1 then r_byLooks x aa 0 else tt else tt)] (fun ls hl => ?_) (fun J_2 => ?_)
    · exact ro_iret hx hb hr hlocks dX6_asked_52 rfl
    · refine bz_eq (tgt := 51) hx hb dX6_asked_34 (by decide) (fun h_3 => ?_) (fun h_3 => ?_)
      · refine lv_iload_n hx hb dX6_asked_51 rfl (lv_at hl 3 rfl) ?_
        have hJ := J_2; (repeat rw [if_neg h_3] at hJ)
        first | exact hJ ls (lv_sub hl [0, 1, 2, 3] rfl) | ((repeat rw [if_neg h_3] at hl); (repeat rw [if_neg h_3]); exact hJ ls (lv_sub hl [0, 1, 2, 3] rfl))
      · refine lv_iload_n hx hb dX6_asked_37 rfl (lv_at hl 3 rfl) ?_
        refine lv_iconst (v := 1) hx hb dX6_asked_38 (by decide) ?_
        refine lv_icmp_ne (tgt := 51) hx hb dX6_asked_39 (by decide) (fun h_4 => ?_) (fun h_4 => ?_)
        · refine lv_iload_n hx hb dX6_asked_51 rfl (lv_at hl 3 rfl) ?_
          have hJ := J_2; (repeat rw [if_pos h_3] at hJ); (repeat rw [if_neg h_4] at hJ)
          first | exact hJ ls (lv_sub hl [0, 1, 2, 3] rfl) | ((repeat rw [if_pos h_3] at hl); (repeat rw [if_neg h_4] at hl); (repeat rw [if_pos h_3]); (repeat rw [if_neg h_4]); exact hJ ls (lv_sub hl [0, 1, 2, 3] rfl))
        · refine lv_aload_n hx hb dX6_asked_42 rfl (lv_at hl 1 rfl) ?_
          refine lv_iload_n hx hb dX6_asked_43 rfl (lv_at hl 2 rfl) ?_
          refine lv_iconst (v := 0) hx hb dX6_asked_44 (by decide) ?_
          refine ro_call (va_runV (As := [.int aa, .int 0]) (rest := []) hC (c_X6_byLooks l G M x aa 0 hI hO (ib.weak iA (by decide) (by decide))) (cwV 2 hts gX6_asked_X6_byLooks rfl rfl rfl kd_X6_byLooks ⟨Nat.le_of_ble_eq_true rfl, Nat.le_of_ble_eq_true rfl⟩) (ro_preV hK hB.1 rfl hB) rfl rfl hl.1 rfl (lv_room (Nat.le_of_ble_eq_true rfl)) dX6_asked_45 ⟨Nat.zero_le _, Nat.zero_le _⟩) ?_
          refine lv_goto (tgt := 52) hx hb dX6_asked_48 (by decide) ?_
          have hJ := J_2; (repeat rw [if_pos h_3] at hJ); (repeat rw [if_pos h_4] at hJ)
          first | exact hJ ls (lv_sub hl [0, 1, 2, 3] rfl) | ((repeat rw [if_pos h_3] at hl); (repeat rw [if_pos h_4] at hl); (repeat rw [if_pos h_3]); (repeat rw [if_pos h_4]); exact hJ ls (lv_sub hl [0, 1, 2, 3] rfl))
  · refine lv_icmp_ne (tgt := 31) hx hb dX6_asked_11 (by decide) (fun h_5 => ?_) (fun h_5 => ?_)
    · refine lv_iconst (v := 0) hx hb dX6_asked_31 (by decide) ?_
      have hJ := J_1; (repeat rw [if_neg h_5] at hJ)
      first | exact hJ ls (lv_sub hl [0, 1, 2] rfl) | ((repeat rw [if_neg h_5] at hl); (repeat rw [if_neg h_5]); exact hJ ls (lv_sub hl [0, 1, 2] rfl))
    · refine lv_aload_n hx hb dX6_asked_14 rfl (lv_at hl 0 rfl) ?_
      refine r_get (C := RX6) (T := TX6) (N := 18) hx hb hts i_X6_asked_X6 hown hK hB.1 rfl 1 (by decide) k_X6_asked_fieldLink_9 rfl rfl dX6_asked_15 ?_
      refine lv_sipush (v := 186) hx hb dX6_asked_18 (by decide +kernel) ?_
      refine lv_iload_n hx hb dX6_asked_21 rfl (lv_at hl 1 rfl) ?_
      refine lv_iadd hx hb dX6_asked_22 ?_
      refine r_iald hx hb hK hB.2.1 (vp_ib (lo := 186) (hi := 201) (ib_add (ib_nI (n := 186) (by decide)) iA (by decide) (by decide)) (by decide) (by decide)) dX6_asked_23 ?_
      refine lv_if_ne (tgt := 31) hx hb dX6_asked_24 (by decide) (fun h_6 => ?_) (fun h_6 => ?_)
      · refine lv_iconst (v := 0) hx hb dX6_asked_31 (by decide) ?_
        have hJ := J_1; (repeat rw [if_pos h_5] at hJ); (repeat rw [if_neg h_6] at hJ)
        first | exact hJ ls (lv_sub hl [0, 1, 2] rfl) | ((repeat rw [if_pos h_5] at hl); (repeat rw [if_neg h_6] at hl); (repeat rw [if_pos h_5]); (repeat rw [if_neg h_6]); exact hJ ls (lv_sub hl [0, 1, 2] rfl))
      · refine lv_iconst (v := 1) hx hb dX6_asked_27 (by decide) ?_
        refine lv_goto (tgt := 32) hx hb dX6_asked_28 (by decide) ?_
        have hJ := J_1; (repeat rw [if_pos h_5] at hJ); (repeat rw [if_pos h_6] at hJ)
        first | exact hJ ls (lv_sub hl [0, 1, 2] rfl) | ((repeat rw [if_pos h_5] at hl); (repeat rw [if_pos h_6] at hl); (repeat rw [if_pos h_5]); (repeat rw [if_pos h_6]); exact hJ ls (lv_sub hl [0, 1, 2] rfl))
theorem i_X6_keeps_X6 : ∀ w ∈ wsX60, w ∈ wsX6_keeps := fun _ h => List.mem_cons_of_mem _ (List.mem_append_right _ h)
theorem k_X6_keeps_fieldLink_9 : Cond.fieldLink RX6 9 "SameWaterModel" "s" "[I" ∈ wsX6_keeps := by decide +kernel
theorem kd_X6_isStuff : yX6_isStuff.cls ≠ "java/lang/invoke/MethodHandle" ∧ yX6_isStuff.cls ≠ "java/lang/invoke/VarHandle" ∧ (parseMethodDescriptor yX6_isStuff.desc).map (fun d => d.parameters.length) = some 1 := by decide +kernel
theorem kd_X6_isKept : yX6_isKept.cls = RX6 ∧ yX6_isKept.cls ≠ "java/lang/invoke/MethodHandle" ∧ yX6_isKept.cls ≠ "java/lang/invoke/VarHandle" ∧ (parseMethodDescriptor yX6_isKept.desc).map (fun d => d.parameters.length) = some 4 := by decide +kernel
def r_keeps (x : MT) (law : Int32) (child : Int32) (stuff : Int32) : Int32 := if (r_isLaw x law) = true then if (r_isChild x child) = true then if (r_isStuff stuff) = true then b2i (if (r_isKept x law child stuff ((mS x) (130 + child).toNatClampNeg)) = true then true else false) else (-1) else (-1) else (-1)
set_option maxHeartbeats 4000000 in
set_option maxRecDepth 100000 in
theorem c_X6_keeps (l : Launch) (G : GG) (M : Nat → Nat) (x : MT) (law : Int32) (child : Int32) (stuff : Int32)  (hI : mI (mS x)) (hO : mO (mS x)) : Met l yX6_keeps wsX6_keeps { frames := 2, cells := 0, slots := 0, locals := 43 } (roP G [.ref (M 0), .int law, .int child, .int stuff] (fun H => MAt G M x H)) (roQ (some (.int (r_keeps x law child stuff)))) 0 0 nF := by
  refine Met.ofW (cc := cX6_keeps) (maxL := 4) (ret := (some .int)) (by decide) rfl ?_
  intro p e s m args below meth c s₁ Bd hml hv
  obtain ⟨rfl, hK, hB⟩ := hv
  have hx := Bd.exec
  have hb := Bd.bytes
  have hr := Bd.returns
  have hts := atoms_spec (ws := wsX6_keeps) Bd.pre
  have hown : s.vm.findClass RX6 = some m.cls := findClass_of_methodNamed Bd.named
  have hlocks := Bd.notSynchronized
  have hC : CallFix p m c cX6_keeps 4 s _ wsX6_keeps RX6 := ⟨hx, hb, hml, hown, hts⟩
  have hl := lv_entry ([.ref (M 0), .int law, .int child, .int stuff]) (n := 4) (Nat.le_of_ble_eq_true rfl)
  rw [lg_entry_eq]
  generalize (lg_sl ([.ref (M 0), .int law, .int child, .int stuff]) ++ List.replicate (4 - (lg_sl ([.ref (M 0), .int law, .int child, .int stuff])).length) Slot.unset).toArray = ls at hl ⊢
  have hl : lv_has ls 4 [(0, .ref (M 0)), (1, .int law), (2, .int child), (3, .int stuff)] := hl
  refine lv_aload_n hx hb dX6_keeps_0 rfl (lv_at hl 0 rfl) ?_
  refine lv_iload_n hx hb dX6_keeps_1 rfl (lv_at hl 1 rfl) ?_
  refine ro_call (va_runV (As := [.int law]) (rest := []) hC (c_X6_isLaw l G M x law) (cwV 1 hts gX6_keeps_X6_isLaw rfl rfl rfl kd_X6_isLaw ⟨Nat.le_of_ble_eq_true rfl, Nat.le_of_ble_eq_true rfl⟩) (ro_preV hK hB.1 rfl hB) rfl rfl hl.1 rfl (lv_room (Nat.le_of_ble_eq_true rfl)) dX6_keeps_2 ⟨Nat.zero_le _, Nat.zero_le _⟩) ?_
  refine bz_eq (tgt := 23) hx hb dX6_keeps_5 (by decide) (fun h_1 => ?_) (fun h_1 => ?_)
  · refine lv_iconst (v := (-1)) hx hb dX6_keeps_23 (by decide) ?_
    exact ro_iret hx hb hr hlocks dX6_keeps_24 (by (try unfold r_keeps); (repeat rw [if_neg h_1]); first | done | rfl)
  · refine lv_aload_n hx hb dX6_keeps_8 rfl (lv_at hl 0 rfl) ?_
    refine lv_iload_n hx hb dX6_keeps_9 rfl (lv_at hl 2 rfl) ?_
    refine ro_call (va_runV (As := [.int child]) (rest := []) hC (c_X6_isChild l G M x child) (cwV 1 hts gX6_keeps_X6_isChild rfl rfl rfl kd_X6_isChild ⟨Nat.le_of_ble_eq_true rfl, Nat.le_of_ble_eq_true rfl⟩) (ro_preV hK hB.1 rfl hB) rfl rfl hl.1 rfl (lv_room (Nat.le_of_ble_eq_true rfl)) dX6_keeps_10 ⟨Nat.zero_le _, Nat.zero_le _⟩) ?_
    refine bz_eq (tgt := 23) hx hb dX6_keeps_13 (by decide) (fun h_2 => ?_) (fun h_2 => ?_)
    · refine lv_iconst (v := (-1)) hx hb dX6_keeps_23 (by decide) ?_
      exact ro_iret hx hb hr hlocks dX6_keeps_24 (by (try unfold r_keeps); (repeat rw [if_pos h_1]); (repeat rw [if_neg h_2]); first | done | rfl)
    · refine lv_iload_n hx hb dX6_keeps_16 rfl (lv_at hl 3 rfl) ?_
      refine ro_call (va_runS (As := [.int stuff]) (rest := []) hC (c_X6_isStuff l G stuff) (va_cwS 1 hts gX6_keeps_X6_isStuff rfl rfl rfl kd_X6_isStuff ⟨Nat.le_of_ble_eq_true rfl, Nat.le_of_ble_eq_true rfl⟩) (ro_preS hK trivial) rfl rfl hl.1 rfl (lv_room (Nat.le_of_ble_eq_true rfl)) dX6_keeps_17 ⟨Nat.zero_le _, Nat.zero_le _⟩) ?_
      refine bz_ne (tgt := 25) hx hb dX6_keeps_20 (by decide) (fun h_3 => ?_) (fun h_3 => ?_)
      · refine lv_aload_n hx hb dX6_keeps_25 rfl (lv_at hl 0 rfl) ?_
        refine lv_iload_n hx hb dX6_keeps_26 rfl (lv_at hl 1 rfl) ?_
        refine lv_iload_n hx hb dX6_keeps_27 rfl (lv_at hl 2 rfl) ?_
        refine lv_iload_n hx hb dX6_keeps_28 rfl (lv_at hl 3 rfl) ?_
        refine lv_aload_n hx hb dX6_keeps_29 rfl (lv_at hl 0 rfl) ?_
        refine r_get (C := RX6) (T := TX6) (N := 18) hx hb hts i_X6_keeps_X6 hown hK hB.1 rfl 1 (by decide) k_X6_keeps_fieldLink_9 rfl rfl dX6_keeps_30 ?_
        refine lv_sipush (v := 130) hx hb dX6_keeps_33 (by decide +kernel) ?_
        refine lv_iload_n hx hb dX6_keeps_36 rfl (lv_at hl 2 rfl) ?_
        refine lv_iadd hx hb dX6_keeps_37 ?_
        refine r_iald hx hb hK hB.2.1 (vp_ib (lo := 130) (hi := 137) (ib_add (ib_nI (n := 130) (by decide)) (isChild_ib hI h_2) (by decide) (by decide)) (by decide) (by decide)) dX6_keeps_38 ?_
        refine ro_call (va_runV (As := [.int law, .int child, .int stuff, .int ((mS x) (130 + child).toNatClampNeg)]) (rest := []) hC (c_X6_isKept l G M x law child stuff ((mS x) (130 + child).toNatClampNeg) hI hO (ib.weak (isLaw_ib hI h_1) (by decide) (by decide)) (ib.weak (isChild_ib hI h_2) (by decide) (by decide)) (ib.weak (isStuff_ib h_3) (by decide) (by decide))) (cwV 4 hts gX6_keeps_X6_isKept rfl rfl rfl kd_X6_isKept ⟨Nat.le_of_ble_eq_true rfl, Nat.le_of_ble_eq_true rfl⟩) (ro_preV hK hB.1 rfl hB) rfl rfl hl.1 rfl (lv_room (Nat.le_of_ble_eq_true rfl)) dX6_keeps_39 ⟨Nat.zero_le _, Nat.zero_le _⟩) ?_
        refine join_at (nL := 4) 50 [(0, .ref (M 0)), (1, .int law), (2, .int child), (3, .int stuff)] [.int (b2i (if (r_isKept x law child stuff ((mS x) (130 + child).toNatClampNeg)) = true then true else false))] (fun ls hl => ?_) (fun J_4 => ?_)
        · exact ro_iret hx hb hr hlocks dX6_keeps_50 (by (try unfold r_keeps); (repeat rw [if_pos h_1]); (repeat rw [if_pos h_2]); (repeat rw [if_pos h_3]); first | done | rfl)
        · refine bz_eq (tgt := 49) hx hb dX6_keeps_42 (by decide) (fun h_5 => ?_) (fun h_5 => ?_)
          · refine lv_iconst (v := 0) hx hb dX6_keeps_49 (by decide) ?_
            have hJ := J_4; (repeat rw [if_neg h_5] at hJ)
            first | exact hJ ls (lv_sub hl [0, 1, 2, 3] rfl) | ((repeat rw [if_neg h_5] at hl); (repeat rw [if_neg h_5]); exact hJ ls (lv_sub hl [0, 1, 2, 3] rfl))
          · refine lv_iconst (v := 1) hx hb dX6_keeps_45 (by decide) ?_
            refine lv_goto (tgt := 50) hx hb dX6_keeps_46 (by decide) ?_
            have hJ := J_4; (repeat rw [if_pos h_5] at hJ)
            first | exact hJ ls (lv_sub hl [0, 1, 2, 3] rfl) | ((repeat rw [if_pos h_5] at hl); (repeat rw [if_pos h_5]); exact hJ ls (lv_sub hl [0, 1, 2, 3] rfl))
      · refine lv_iconst (v := (-1)) hx hb dX6_keeps_23 (by decide) ?_
        exact ro_iret hx hb hr hlocks dX6_keeps_24 (by (try unfold r_keeps); (repeat rw [if_pos h_1]); (repeat rw [if_pos h_2]); (repeat rw [if_neg h_3]); first | done | rfl)
def r_eachIt_st (x : MT) (ll cc gg : Int32) (k : Nat) (kp : Bool) : Bool := (if kp = true then if (r_isKept x ll cc (nI k) gg) = true then true else false else false)
def r_eachIt (x : MT) (ll cc gg : Int32) (kp0 : Bool) : Nat → Bool
  | 0 => kp0
  | k + 1 => r_eachIt_st x ll cc gg k (r_eachIt x ll cc gg kp0 k)
def r_isKeptEach (x : MT) (ll cc : Int32) (sn : Nat) (gg : Int32) : Bool := (r_eachIt x ll cc gg true (sn + 1))
set_option maxHeartbeats 4000000 in
set_option maxRecDepth 100000 in
theorem c_X6_isKeptEach (l : Launch) (G : GG) (M : Nat → Nat) (x : MT) (ll cc : Int32) (sn : Nat) (gg : Int32)  (hI : mI (mS x)) (hO : mO (mS x)) (iL : ib 0 7 ll) (iC : ib 0 7 cc) (hsn : sn ≤ 3) : Met l yX6_isKeptEach wsX6_isKeptEach { frames := 1, cells := 0, slots := 0, locals := 29 } (roP G [.ref (M 0), .int ll, .int cc, .int (nI sn), .int gg] (fun H => MAt G M x H)) (roQ (some (.int (b2i (r_isKeptEach x ll cc sn gg))))) 0 0 nF := by
  refine Met.ofW (cc := cX6_isKeptEach) (maxL := 7) (ret := (some .boolean)) (by decide) rfl ?_
  intro p e s m args below meth c s₁ Bd hml hv
  obtain ⟨rfl, hK, hB⟩ := hv
  have hx := Bd.exec
  have hb := Bd.bytes
  have hr := Bd.returns
  have hts := atoms_spec (ws := wsX6_isKeptEach) Bd.pre
  have hown : s.vm.findClass RX6 = some m.cls := findClass_of_methodNamed Bd.named
  have hlocks := Bd.notSynchronized
  have hC : CallFix p m c cX6_isKeptEach 7 s _ wsX6_isKeptEach RX6 := ⟨hx, hb, hml, hown, hts⟩
  have hl := lv_entry ([.ref (M 0), .int ll, .int cc, .int (nI sn), .int gg]) (n := 7) (Nat.le_of_ble_eq_true rfl)
  rw [lg_entry_eq]
  generalize (lg_sl ([.ref (M 0), .int ll, .int cc, .int (nI sn), .int gg]) ++ List.replicate (7 - (lg_sl ([.ref (M 0), .int ll, .int cc, .int (nI sn), .int gg])).length) Slot.unset).toArray = ls at hl ⊢
  have hl : lv_has ls 7 [(0, .ref (M 0)), (1, .int ll), (2, .int cc), (3, .int (nI sn)), (4, .int gg)] := hl
  refine lv_iconst (v := 1) hx hb dX6_isKeptEach_0 (by decide) ?_
  refine lv_istore (lv' := [(5, .int 1), (0, .ref (M 0)), (1, .int ll), (2, .int cc), (3, .int (nI sn)), (4, .int gg)]) hx hb dX6_isKeptEach_1 hl (by decide) rfl (fun ls hl => ?_)
  refine lv_iconst (v := 0) hx hb dX6_isKeptEach_3 (by decide) ?_
  refine lv_istore (lv' := [(6, .int 0), (5, .int 1), (0, .ref (M 0)), (1, .int ll), (2, .int cc), (3, .int (nI sn)), (4, .int gg)]) hx hb dX6_isKeptEach_4 hl (by decide) rfl (fun ls hl => ?_)
  refine loop_at (nL := 7) (fun k : Nat => [(0, .ref (M 0)), (1, .int ll), (2, .int cc), (3, .int (nI sn)), (4, .int gg), (5, .int (b2i (r_eachIt x ll cc gg true k))), (6, .int (nI k))]) (fun k => k ≤ (sn + 1)) (fun k => (sn + 1) - k) 0 (Nat.zero_le _) (lv_sub hl [2, 3, 4, 5, 6, 1, 0] rfl) (fun k hk_k ih_k ls hl => ?_)
  have hl : lv_has ls 7 [(0, .ref (M 0)), (1, .int ll), (2, .int cc), (3, .int (nI sn)), (4, .int gg), (5, .int (b2i (r_eachIt x ll cc gg true k))), (6, .int (nI k))] := hl
  refine lv_iload hx hb dX6_isKeptEach_6 (lv_at hl 6 rfl) ?_
  refine lv_iload_n hx hb dX6_isKeptEach_8 rfl (lv_at hl 3 rfl) ?_
  refine lv_icmp_gt (tgt := 43) hx hb dX6_isKeptEach_9 (by decide) (fun h_1 => ?_) (fun h_1 => ?_)
  · have hN_k : k = (sn + 1) := gt_ex (N := sn) rfl h_1 hk_k (by omega)
    subst hN_k
    refine lv_iload hx hb dX6_isKeptEach_43 (lv_at hl 5 rfl) ?_
    exact ro_zret hx hb hr hlocks dX6_isKeptEach_45 rfl
  · have hlt_k : k < (sn + 1) := gt_in (N := sn) rfl h_1 hk_k (by omega)
    refine lv_iload hx hb dX6_isKeptEach_12 (lv_at hl 5 rfl) ?_
    refine join_at (nL := 7) 35 [(0, .ref (M 0)), (1, .int ll), (2, .int cc), (3, .int (nI sn)), (4, .int gg), (5, .int (b2i (r_eachIt x ll cc gg true k))), (6, .int (nI k))] [.int (b2i (if (r_eachIt x ll cc gg true k) = true then if (r_isKept x ll cc (nI k) gg) = true then true else false else false))] (fun ls hl => ?_) (fun J_2 => ?_)
    · refine lv_istore (lv' := [(5, .int (b2i (if (r_eachIt x ll cc gg true k) = true then if (r_isKept x ll cc (nI k) gg) = true then true else false else false))), (0, .ref (M 0)), (1, .int ll), (2, .int cc), (3, .int (nI sn)), (4, .int gg), (6, .int (nI k))]) hx hb dX6_isKeptEach_35 hl (by decide) rfl (fun ls hl => ?_)
      refine lv_iinc (v := (nI k) + 1) (lv' := [(6, .int ((nI k) + 1)), (5, .int (b2i (if (r_eachIt x ll cc gg true k) = true then if (r_isKept x ll cc (nI k) gg) = true then true else false else false))), (0, .ref (M 0)), (1, .int ll), (2, .int cc), (3, .int (nI sn)), (4, .int gg)]) hx hb dX6_isKeptEach_37 hl (k := 6) rfl rfl (by decide) rfl (fun ls hl => ?_)
      refine lv_goto (tgt := 6) hx hb dX6_isKeptEach_40 (by decide) ?_
      have hE : (r_eachIt x ll cc gg true (k + 1)) = (if (r_eachIt x ll cc gg true k) = true then if (r_isKept x ll cc (nI k) gg) = true then true else false else false) := (by show r_eachIt_st x ll cc gg k (r_eachIt x ll cc gg true k) = _; (try unfold r_eachIt_st); first | done | rfl)
      refine ih_k (k + 1) (show k + 1 ≤ (sn + 1) by omega) (by omega) ls ?_
      show lv_has ls 7 [(0, .ref (M 0)), (1, .int ll), (2, .int cc), (3, .int (nI sn)), (4, .int gg), (5, .int (b2i (r_eachIt x ll cc gg true (k + 1)))), (6, .int (nI (k + 1)))]
      rw [nI_succ, hE]
      exact lv_sub hl [2, 3, 4, 5, 6, 1, 0] rfl
    · refine bz_eq (tgt := 34) hx hb dX6_isKeptEach_14 (by decide) (fun h_3 => ?_) (fun h_3 => ?_)
      · refine lv_iconst (v := 0) hx hb dX6_isKeptEach_34 (by decide) ?_
        have hJ := J_2; (repeat rw [if_neg h_3] at hJ)
        first | exact hJ ls (lv_sub hl [0, 1, 2, 3, 4, 5, 6] rfl) | ((repeat rw [if_neg h_3] at hl); (repeat rw [if_neg h_3]); exact hJ ls (lv_sub hl [0, 1, 2, 3, 4, 5, 6] rfl))
      · refine lv_aload_n hx hb dX6_isKeptEach_17 rfl (lv_at hl 0 rfl) ?_
        refine lv_iload_n hx hb dX6_isKeptEach_18 rfl (lv_at hl 1 rfl) ?_
        refine lv_iload_n hx hb dX6_isKeptEach_19 rfl (lv_at hl 2 rfl) ?_
        refine lv_iload hx hb dX6_isKeptEach_20 (lv_at hl 6 rfl) ?_
        refine lv_iload hx hb dX6_isKeptEach_22 (lv_at hl 4 rfl) ?_
        refine ro_call (va_runV (As := [.int ll, .int cc, .int (nI k), .int gg]) (rest := []) hC (c_X6_isKept l G M x ll cc (nI k) gg hI hO (ib.weak iL (by decide) (by decide)) (ib.weak iC (by decide) (by decide)) (ib.weak (ib_lt (n := 4) (by omega) (by decide)) (by decide) (by decide))) (cwV 4 hts gX6_isKeptEach_X6_isKept rfl rfl rfl kd_X6_isKept ⟨Nat.le_of_ble_eq_true rfl, Nat.le_of_ble_eq_true rfl⟩) (ro_preV hK hB.1 rfl hB) rfl rfl hl.1 rfl (lv_room (Nat.le_of_ble_eq_true rfl)) dX6_isKeptEach_24 ⟨Nat.zero_le _, Nat.zero_le _⟩) ?_
        refine bz_eq (tgt := 34) hx hb dX6_isKeptEach_27 (by decide) (fun h_4 => ?_) (fun h_4 => ?_)
        · refine lv_iconst (v := 0) hx hb dX6_isKeptEach_34 (by decide) ?_
          have hJ := J_2; (repeat rw [if_pos h_3] at hJ); (repeat rw [if_neg h_4] at hJ)
          first | exact hJ ls (lv_sub hl [0, 1, 2, 3, 4, 5, 6] rfl) | ((repeat rw [if_pos h_3] at hl); (repeat rw [if_neg h_4] at hl); (repeat rw [if_pos h_3]); (repeat rw [if_neg h_4]); exact hJ ls (lv_sub hl [0, 1, 2, 3, 4, 5, 6] rfl))
        · refine lv_iconst (v := 1) hx hb dX6_isKeptEach_30 (by decide) ?_
          refine lv_goto (tgt := 35) hx hb dX6_isKeptEach_31 (by decide) ?_
          have hJ := J_2; (repeat rw [if_pos h_3] at hJ); (repeat rw [if_pos h_4] at hJ)
          first | exact hJ ls (lv_sub hl [0, 1, 2, 3, 4, 5, 6] rfl) | ((repeat rw [if_pos h_3] at hl); (repeat rw [if_pos h_4] at hl); (repeat rw [if_pos h_3]); (repeat rw [if_pos h_4]); exact hJ ls (lv_sub hl [0, 1, 2, 3, 4, 5, 6] rfl))
theorem c2_X6_isKeptEach (l : Launch) (G : GG) (M : Nat → Nat) (x : MT) (ll cc ss gg : Int32) (hI : mI (mS x)) (hO : mO (mS x)) (iL : ib 0 7 ll) (iC : ib 0 7 cc) (iS : ib 0 3 ss) : Met l yX6_isKeptEach wsX6_isKeptEach { frames := 1, cells := 0, slots := 0, locals := 29 } (roP G [.ref (M 0), .int ll, .int cc, .int ss, .int gg] (fun H => MAt G M x H)) (roQ (some (.int (b2i (r_isKeptEach x ll cc ss.toNatClampNeg gg))))) 0 0 nF := by
  obtain ⟨n, rfl, h1, h2⟩ := iS.nI_eq (by decide)
  have h9 := c_X6_isKeptEach l G M x ll cc n gg hI hO iL iC (by omega)
  rw [nI_clamp (by omega)]
  exact h9
theorem i_X6_byKind_X6 : ∀ w ∈ wsX60, w ∈ wsX6_byKind := fun _ h => List.mem_cons_of_mem _ (List.mem_append_right _ h)
theorem k_X6_byKind_fieldLink_9 : Cond.fieldLink RX6 9 "SameWaterModel" "s" "[I" ∈ wsX6_byKind := by decide +kernel
theorem kd_X6_byKeeping : yX6_byKeeping.cls = RX6 ∧ yX6_byKeeping.cls ≠ "java/lang/invoke/MethodHandle" ∧ yX6_byKeeping.cls ≠ "java/lang/invoke/VarHandle" ∧ (parseMethodDescriptor yX6_byKeeping.desc).map (fun d => d.parameters.length) = some 2 := by decide +kernel
theorem kd_X6_asked : yX6_asked.cls = RX6 ∧ yX6_asked.cls ≠ "java/lang/invoke/MethodHandle" ∧ yX6_asked.cls ≠ "java/lang/invoke/VarHandle" ∧ (parseMethodDescriptor yX6_asked.desc).map (fun d => d.parameters.length) = some 2 := by decide +kernel
theorem kd_X6_isKeptEach : yX6_isKeptEach.cls = RX6 ∧ yX6_isKeptEach.cls ≠ "java/lang/invoke/MethodHandle" ∧ yX6_isKeptEach.cls ≠ "java/lang/invoke/VarHandle" ∧ (parseMethodDescriptor yX6_isKeptEach.desc).map (fun d => d.parameters.length) = some 4 := by decide +kernel
def r_byKind (x : MT) (ll : Int32) (cc : Int32) (aa : Int32) (gg : Int32) : Int32 := if ((mS x) (482 + ll).toNatClampNeg) = 1 then r_byLooks x aa ((mS x) (490 + ll).toNatClampNeg) else if ((mS x) (482 + ll).toNatClampNeg) = 2 then r_byKeeping x aa (r_isKept x ll cc ((mS x) (170 + aa).toNatClampNeg) gg) else if ((mS x) (482 + ll).toNatClampNeg) = 3 then r_asked x aa (r_byKeeping x aa (r_isKept x ll cc ((mS x) (170 + aa).toNatClampNeg) gg)) else if ((mS x) (482 + ll).toNatClampNeg) = 4 then if ((mS x) (234 + aa).toNatClampNeg) = ((mS x) (490 + ll).toNatClampNeg) then 2 - (r_byLooks x aa ((mS x) (490 + ll).toNatClampNeg)) else r_byLooks x aa ((mS x) (490 + ll).toNatClampNeg) else if ((mS x) (482 + ll).toNatClampNeg) = 5 then r_byKeeping x aa (if (r_isKept x ll cc ((mS x) (170 + aa).toNatClampNeg) gg) = true then true else if ((mS x) (218 + aa).toNatClampNeg) = 1 then if gg < (6 * ((mS x) (490 + ll).toNatClampNeg)) then false else true else false) else if ((mS x) (482 + ll).toNatClampNeg) = 6 then r_asked x aa (r_byKeeping x aa (r_isKeptEach x ll cc ((mS x) (170 + aa).toNatClampNeg).toNatClampNeg gg)) else 1
set_option maxHeartbeats 4000000 in
set_option maxRecDepth 100000 in
theorem c_X6_byKind (l : Launch) (G : GG) (M : Nat → Nat) (x : MT) (ll : Int32) (cc : Int32) (aa : Int32) (gg : Int32)  (hI : mI (mS x)) (hO : mO (mS x)) (iL : ib 0 7 ll) (iC : ib 0 7 cc) (iA : ib 0 15 aa) : Met l yX6_byKind wsX6_byKind { frames := 2, cells := 0, slots := 0, locals := 55 } (roP G [.ref (M 0), .int ll, .int cc, .int aa, .int gg] (fun H => MAt G M x H)) (roQ (some (.int (r_byKind x ll cc aa gg)))) 0 0 nF := by
  refine Met.ofW (cc := cX6_byKind) (maxL := 7) (ret := (some .int)) (by decide) rfl ?_
  intro p e s m args below meth c s₁ Bd hml hv
  obtain ⟨rfl, hK, hB⟩ := hv
  have hx := Bd.exec
  have hb := Bd.bytes
  have hr := Bd.returns
  have hts := atoms_spec (ws := wsX6_byKind) Bd.pre
  have hown : s.vm.findClass RX6 = some m.cls := findClass_of_methodNamed Bd.named
  have hlocks := Bd.notSynchronized
  have hC : CallFix p m c cX6_byKind 7 s _ wsX6_byKind RX6 := ⟨hx, hb, hml, hown, hts⟩
  have hl := lv_entry ([.ref (M 0), .int ll, .int cc, .int aa, .int gg]) (n := 7) (Nat.le_of_ble_eq_true rfl)
  rw [lg_entry_eq]
  generalize (lg_sl ([.ref (M 0), .int ll, .int cc, .int aa, .int gg]) ++ List.replicate (7 - (lg_sl ([.ref (M 0), .int ll, .int cc, .int aa, .int gg])).length) Slot.unset).toArray = ls at hl ⊢
  have hl : lv_has ls 7 [(0, .ref (M 0)), (1, .int ll), (2, .int cc), (3, .int aa), (4, .int gg)] := hl
  refine lv_aload_n hx hb dX6_byKind_0 rfl (lv_at hl 0 rfl) ?_
  refine r_get (C := RX6) (T := TX6) (N := 18) hx hb hts i_X6_byKind_X6 hown hK hB.1 rfl 1 (by decide) k_X6_byKind_fieldLink_9 rfl rfl dX6_byKind_1 ?_
  refine lv_sipush (v := 170) hx hb dX6_byKind_4 (by decide +kernel) ?_
  refine lv_iload_n hx hb dX6_byKind_7 rfl (lv_at hl 3 rfl) ?_
  refine lv_iadd hx hb dX6_byKind_8 ?_
  refine r_iald hx hb hK hB.2.1 (vp_ib (lo := 170) (hi := 185) (ib_add (ib_nI (n := 170) (by decide)) iA (by decide) (by decide)) (by decide) (by decide)) dX6_byKind_9 ?_
  refine lv_istore (lv' := [(5, .int ((mS x) (170 + aa).toNatClampNeg)), (0, .ref (M 0)), (1, .int ll), (2, .int cc), (3, .int aa), (4, .int gg)]) hx hb dX6_byKind_10 hl (by decide) rfl (fun ls hl => ?_)
  refine lv_aload_n hx hb dX6_byKind_12 rfl (lv_at hl 1 rfl) ?_
  refine r_get (C := RX6) (T := TX6) (N := 18) hx hb hts i_X6_byKind_X6 hown hK hB.1 rfl 1 (by decide) k_X6_byKind_fieldLink_9 rfl rfl dX6_byKind_13 ?_
  refine lv_sipush (v := 490) hx hb dX6_byKind_16 (by decide +kernel) ?_
  refine lv_iload_n hx hb dX6_byKind_19 rfl (lv_at hl 2 rfl) ?_
  refine lv_iadd hx hb dX6_byKind_20 ?_
  refine r_iald hx hb hK hB.2.1 (vp_ib (lo := 490) (hi := 497) (ib_add (ib_nI (n := 490) (by decide)) iL (by decide) (by decide)) (by decide) (by decide)) dX6_byKind_21 ?_
  refine lv_istore (lv' := [(6, .int ((mS x) (490 + ll).toNatClampNeg)), (5, .int ((mS x) (170 + aa).toNatClampNeg)), (0, .ref (M 0)), (1, .int ll), (2, .int cc), (3, .int aa), (4, .int gg)]) hx hb dX6_byKind_22 hl (by decide) rfl (fun ls hl => ?_)
  refine lv_aload_n hx hb dX6_byKind_24 rfl (lv_at hl 2 rfl) ?_
  refine r_get (C := RX6) (T := TX6) (N := 18) hx hb hts i_X6_byKind_X6 hown hK hB.1 rfl 1 (by decide) k_X6_byKind_fieldLink_9 rfl rfl dX6_byKind_25 ?_
  refine lv_sipush (v := 482) hx hb dX6_byKind_28 (by decide +kernel) ?_
  refine lv_iload_n hx hb dX6_byKind_31 rfl (lv_at hl 3 rfl) ?_
  refine lv_iadd hx hb dX6_byKind_32 ?_
  refine r_iald hx hb hK hB.2.1 (vp_ib (lo := 482) (hi := 489) (ib_add (ib_nI (n := 482) (by decide)) iL (by decide) (by decide)) (by decide) (by decide)) dX6_byKind_33 ?_
  rcases Classical.em (((mS x) (482 + ll).toNatClampNeg) = 1) with h_1 | h_1
  · refine lv_tableIn (off := 38) (tgt := 72) hx hb dX6_byKind_34 (by rw [h_1]; decide) (by rw [h_1]; decide) (by rw [h_1]; rfl) (by decide) ?_
    refine lv_aload_n hx hb dX6_byKind_72 rfl (lv_at hl 2 rfl) ?_
    refine lv_iload_n hx hb dX6_byKind_73 rfl (lv_at hl 5 rfl) ?_
    refine lv_iload hx hb dX6_byKind_74 (lv_at hl 0 rfl) ?_
    refine ro_call (va_runV (As := [.int aa, .int ((mS x) (490 + ll).toNatClampNeg)]) (rest := []) hC (c_X6_byLooks l G M x aa ((mS x) (490 + ll).toNatClampNeg) hI hO (ib.weak iA (by decide) (by decide))) (cwV 2 hts gX6_byKind_X6_byLooks rfl rfl rfl kd_X6_byLooks ⟨Nat.le_of_ble_eq_true rfl, Nat.le_of_ble_eq_true rfl⟩) (ro_preV hK hB.1 rfl hB) rfl rfl hl.1 rfl (lv_room (Nat.le_of_ble_eq_true rfl)) dX6_byKind_76 ⟨Nat.zero_le _, Nat.zero_le _⟩) ?_
    exact ro_iret hx hb hr hlocks dX6_byKind_79 (by (try unfold r_byKind); (repeat rw [if_pos h_1]); first | done | rfl)
  · rcases Classical.em (((mS x) (482 + ll).toNatClampNeg) = 2) with h_2 | h_2
    · refine lv_tableIn (off := 46) (tgt := 80) hx hb dX6_byKind_34 (by rw [h_2]; decide) (by rw [h_2]; decide) (by rw [h_2]; rfl) (by decide) ?_
      refine lv_aload_n hx hb dX6_byKind_80 rfl (lv_at hl 2 rfl) ?_
      refine lv_iload_n hx hb dX6_byKind_81 rfl (lv_at hl 5 rfl) ?_
      refine lv_aload_n hx hb dX6_byKind_82 rfl (lv_at hl 2 rfl) ?_
      refine lv_iload_n hx hb dX6_byKind_83 rfl (lv_at hl 3 rfl) ?_
      refine lv_iload_n hx hb dX6_byKind_84 rfl (lv_at hl 4 rfl) ?_
      refine lv_iload hx hb dX6_byKind_85 (lv_at hl 1 rfl) ?_
      refine lv_iload hx hb dX6_byKind_87 (lv_at hl 6 rfl) ?_
      refine ro_call (va_runV (As := [.int ll, .int cc, .int ((mS x) (170 + aa).toNatClampNeg), .int gg]) (rest := [.int aa, .ref (M 0)]) hC (c_X6_isKept l G M x ll cc ((mS x) (170 + aa).toNatClampNeg) gg hI hO (ib.weak iL (by decide) (by decide)) (ib.weak iC (by decide) (by decide)) (ib.weak (mI.at (lo := 170) (hi := 185) (x := 0) (y := 3) hI (ib_add (ib_nI (n := 170) (by decide)) iA (by decide) (by decide)) (by decide) (by decide) (by decide)) (by decide) (by decide))) (cwV 4 hts gX6_byKind_X6_isKept rfl rfl rfl kd_X6_isKept ⟨Nat.le_of_ble_eq_true rfl, Nat.le_of_ble_eq_true rfl⟩) (ro_preV hK hB.1 rfl hB) rfl rfl hl.1 rfl (lv_room (Nat.le_of_ble_eq_true rfl)) dX6_byKind_89 ⟨Nat.zero_le _, Nat.zero_le _⟩) ?_
      refine ro_call (va_runV (As := [.int aa, .int (b2i (r_isKept x ll cc ((mS x) (170 + aa).toNatClampNeg) gg))]) (rest := []) hC (c_X6_byKeeping l G M x aa (r_isKept x ll cc ((mS x) (170 + aa).toNatClampNeg) gg) hI hO (ib.weak iA (by decide) (by decide))) (cwV 2 hts gX6_byKind_X6_byKeeping rfl rfl rfl kd_X6_byKeeping ⟨Nat.le_of_ble_eq_true rfl, Nat.le_of_ble_eq_true rfl⟩) (ro_preV hK hB.1 rfl hB) rfl rfl hl.1 rfl (lv_room (Nat.le_of_ble_eq_true rfl)) dX6_byKind_92 ⟨Nat.zero_le _, Nat.zero_le _⟩) ?_
      exact ro_iret hx hb hr hlocks dX6_byKind_95 (by (try unfold r_byKind); (repeat rw [if_neg h_1]); (repeat rw [if_pos h_2]); first | done | rfl)
    · rcases Classical.em (((mS x) (482 + ll).toNatClampNeg) = 3) with h_3 | h_3
      · refine lv_tableIn (off := 62) (tgt := 96) hx hb dX6_byKind_34 (by rw [h_3]; decide) (by rw [h_3]; decide) (by rw [h_3]; rfl) (by decide) ?_
        refine lv_aload_n hx hb dX6_byKind_96 rfl (lv_at hl 2 rfl) ?_
        refine lv_iload_n hx hb dX6_byKind_97 rfl (lv_at hl 5 rfl) ?_
        refine lv_aload_n hx hb dX6_byKind_98 rfl (lv_at hl 2 rfl) ?_
        refine lv_iload_n hx hb dX6_byKind_99 rfl (lv_at hl 5 rfl) ?_
        refine lv_aload_n hx hb dX6_byKind_100 rfl (lv_at hl 2 rfl) ?_
        refine lv_iload_n hx hb dX6_byKind_101 rfl (lv_at hl 3 rfl) ?_
        refine lv_iload_n hx hb dX6_byKind_102 rfl (lv_at hl 4 rfl) ?_
        refine lv_iload hx hb dX6_byKind_103 (lv_at hl 1 rfl) ?_
        refine lv_iload hx hb dX6_byKind_105 (lv_at hl 6 rfl) ?_
        refine ro_call (va_runV (As := [.int ll, .int cc, .int ((mS x) (170 + aa).toNatClampNeg), .int gg]) (rest := [.int aa, .ref (M 0), .int aa, .ref (M 0)]) hC (c_X6_isKept l G M x ll cc ((mS x) (170 + aa).toNatClampNeg) gg hI hO (ib.weak iL (by decide) (by decide)) (ib.weak iC (by decide) (by decide)) (ib.weak (mI.at (lo := 170) (hi := 185) (x := 0) (y := 3) hI (ib_add (ib_nI (n := 170) (by decide)) iA (by decide) (by decide)) (by decide) (by decide) (by decide)) (by decide) (by decide))) (cwV 4 hts gX6_byKind_X6_isKept rfl rfl rfl kd_X6_isKept ⟨Nat.le_of_ble_eq_true rfl, Nat.le_of_ble_eq_true rfl⟩) (ro_preV hK hB.1 rfl hB) rfl rfl hl.1 rfl (lv_room (Nat.le_of_ble_eq_true rfl)) dX6_byKind_107 ⟨Nat.zero_le _, Nat.zero_le _⟩) ?_
        refine ro_call (va_runV (As := [.int aa, .int (b2i (r_isKept x ll cc ((mS x) (170 + aa).toNatClampNeg) gg))]) (rest := [.int aa, .ref (M 0)]) hC (c_X6_byKeeping l G M x aa (r_isKept x ll cc ((mS x) (170 + aa).toNatClampNeg) gg) hI hO (ib.weak iA (by decide) (by decide))) (cwV 2 hts gX6_byKind_X6_byKeeping rfl rfl rfl kd_X6_byKeeping ⟨Nat.le_of_ble_eq_true rfl, Nat.le_of_ble_eq_true rfl⟩) (ro_preV hK hB.1 rfl hB) rfl rfl hl.1 rfl (lv_room (Nat.le_of_ble_eq_true rfl)) dX6_byKind_110 ⟨Nat.zero_le _, Nat.zero_le _⟩) ?_
        refine ro_call (va_runV (As := [.int aa, .int (r_byKeeping x aa (r_isKept x ll cc ((mS x) (170 + aa).toNatClampNeg) gg))]) (rest := []) hC (c_X6_asked l G M x aa (r_byKeeping x aa (r_isKept x ll cc ((mS x) (170 + aa).toNatClampNeg) gg)) hI hO (ib.weak iA (by decide) (by decide))) (cwV 2 hts gX6_byKind_X6_asked rfl rfl rfl kd_X6_asked ⟨Nat.le_of_ble_eq_true rfl, Nat.le_of_ble_eq_true rfl⟩) (ro_preV hK hB.1 rfl hB) rfl rfl hl.1 rfl (lv_room (Nat.le_of_ble_eq_true rfl)) dX6_byKind_113 ⟨Nat.zero_le _, Nat.zero_le _⟩) ?_
        exact ro_iret hx hb hr hlocks dX6_byKind_116 (by (try unfold r_byKind); (repeat rw [if_neg h_1]); (repeat rw [if_neg h_2]); (repeat rw [if_pos h_3]); first | done | rfl)
      · rcases Classical.em (((mS x) (482 + ll).toNatClampNeg) = 4) with h_4 | h_4
        · refine lv_tableIn (off := 83) (tgt := 117) hx hb dX6_byKind_34 (by rw [h_4]; decide) (by rw [h_4]; decide) (by rw [h_4]; rfl) (by decide) ?_
          refine lv_aload_n hx hb dX6_byKind_117 rfl (lv_at hl 2 rfl) ?_
          refine r_get (C := RX6) (T := TX6) (N := 18) hx hb hts i_X6_byKind_X6 hown hK hB.1 rfl 1 (by decide) k_X6_byKind_fieldLink_9 rfl rfl dX6_byKind_118 ?_
          refine lv_sipush (v := 234) hx hb dX6_byKind_121 (by decide +kernel) ?_
          refine lv_iload_n hx hb dX6_byKind_124 rfl (lv_at hl 5 rfl) ?_
          refine lv_iadd hx hb dX6_byKind_125 ?_
          refine r_iald hx hb hK hB.2.1 (vp_ib (lo := 234) (hi := 249) (ib_add (ib_nI (n := 234) (by decide)) iA (by decide) (by decide)) (by decide) (by decide)) dX6_byKind_126 ?_
          refine lv_iload hx hb dX6_byKind_127 (lv_at hl 0 rfl) ?_
          refine join_at (nL := 7) 151 [(6, .int ((mS x) (490 + ll).toNatClampNeg)), (5, .int ((mS x) (170 + aa).toNatClampNeg)), (0, .ref (M 0)), (1, .int ll), (2, .int cc), (3, .int aa), (4, .int gg)] [.int (if ((mS x) (234 + aa).toNatClampNeg) = ((mS x) (490 + ll).toNatClampNeg) then 2 - (r_byLooks x aa ((mS x) (490 + ll).toNatClampNeg)) else r_byLooks x aa ((mS x) (490 + ll).toNatClampNeg))] (fun ls hl => ?_) (fun J_5 => ?_)
          · exact ro_iret hx hb hr hlocks dX6_byKind_151 (by (try unfold r_byKind); (repeat rw [if_neg h_1]); (repeat rw [if_neg h_2]); (repeat rw [if_neg h_3]); (repeat rw [if_pos h_4]); first | done | rfl)
          · refine lv_icmp_ne (tgt := 144) hx hb dX6_byKind_129 (by decide) (fun h_6 => ?_) (fun h_6 => ?_)
            · refine lv_aload_n hx hb dX6_byKind_144 rfl (lv_at hl 2 rfl) ?_
              refine lv_iload_n hx hb dX6_byKind_145 rfl (lv_at hl 5 rfl) ?_
              refine lv_iload hx hb dX6_byKind_146 (lv_at hl 0 rfl) ?_
              refine ro_call (va_runV (As := [.int aa, .int ((mS x) (490 + ll).toNatClampNeg)]) (rest := []) hC (c_X6_byLooks l G M x aa ((mS x) (490 + ll).toNatClampNeg) hI hO (ib.weak iA (by decide) (by decide))) (cwV 2 hts gX6_byKind_X6_byLooks rfl rfl rfl kd_X6_byLooks ⟨Nat.le_of_ble_eq_true rfl, Nat.le_of_ble_eq_true rfl⟩) (ro_preV hK hB.1 rfl hB) rfl rfl hl.1 rfl (lv_room (Nat.le_of_ble_eq_true rfl)) dX6_byKind_148 ⟨Nat.zero_le _, Nat.zero_le _⟩) ?_
              have hJ := J_5; (repeat rw [if_neg h_6] at hJ)
              first | exact hJ ls (lv_sub hl [0, 1, 2, 3, 4, 5, 6] rfl) | ((repeat rw [if_neg h_6] at hl); (repeat rw [if_neg h_6]); exact hJ ls (lv_sub hl [0, 1, 2, 3, 4, 5, 6] rfl))
            · refine lv_iconst (v := 2) hx hb dX6_byKind_132 (by decide) ?_
              refine lv_aload_n hx hb dX6_byKind_133 rfl (lv_at hl 2 rfl) ?_
              refine lv_iload_n hx hb dX6_byKind_134 rfl (lv_at hl 5 rfl) ?_
              refine lv_iload hx hb dX6_byKind_135 (lv_at hl 0 rfl) ?_
              refine ro_call (va_runV (As := [.int aa, .int ((mS x) (490 + ll).toNatClampNeg)]) (rest := [.int 2]) hC (c_X6_byLooks l G M x aa ((mS x) (490 + ll).toNatClampNeg) hI hO (ib.weak iA (by decide) (by decide))) (cwV 2 hts gX6_byKind_X6_byLooks rfl rfl rfl kd_X6_byLooks ⟨Nat.le_of_ble_eq_true rfl, Nat.le_of_ble_eq_true rfl⟩) (ro_preV hK hB.1 rfl hB) rfl rfl hl.1 rfl (lv_room (Nat.le_of_ble_eq_true rfl)) dX6_byKind_137 ⟨Nat.zero_le _, Nat.zero_le _⟩) ?_
              refine lv_isub hx hb dX6_byKind_140 ?_
              refine lv_goto (tgt := 151) hx hb dX6_byKind_141 (by decide) ?_
              have hJ := J_5; (repeat rw [if_pos h_6] at hJ)
              first | exact hJ ls (lv_sub hl [0, 1, 2, 3, 4, 5, 6] rfl) | ((repeat rw [if_pos h_6] at hl); (repeat rw [if_pos h_6]); exact hJ ls (lv_sub hl [0, 1, 2, 3, 4, 5, 6] rfl))
        · rcases Classical.em (((mS x) (482 + ll).toNatClampNeg) = 5) with h_7 | h_7
          · refine lv_tableIn (off := 118) (tgt := 152) hx hb dX6_byKind_34 (by rw [h_7]; decide) (by rw [h_7]; decide) (by rw [h_7]; rfl) (by decide) ?_
            refine lv_aload_n hx hb dX6_byKind_152 rfl (lv_at hl 2 rfl) ?_
            refine lv_iload_n hx hb dX6_byKind_153 rfl (lv_at hl 5 rfl) ?_
            refine lv_aload_n hx hb dX6_byKind_154 rfl (lv_at hl 2 rfl) ?_
            refine lv_iload_n hx hb dX6_byKind_155 rfl (lv_at hl 3 rfl) ?_
            refine lv_iload_n hx hb dX6_byKind_156 rfl (lv_at hl 4 rfl) ?_
            refine lv_iload hx hb dX6_byKind_157 (lv_at hl 1 rfl) ?_
            refine lv_iload hx hb dX6_byKind_159 (lv_at hl 6 rfl) ?_
            refine ro_call (va_runV (As := [.int ll, .int cc, .int ((mS x) (170 + aa).toNatClampNeg), .int gg]) (rest := [.int aa, .ref (M 0)]) hC (c_X6_isKept l G M x ll cc ((mS x) (170 + aa).toNatClampNeg) gg hI hO (ib.weak iL (by decide) (by decide)) (ib.weak iC (by decide) (by decide)) (ib.weak (mI.at (lo := 170) (hi := 185) (x := 0) (y := 3) hI (ib_add (ib_nI (n := 170) (by decide)) iA (by decide) (by decide)) (by decide) (by decide) (by decide)) (by decide) (by decide))) (cwV 4 hts gX6_byKind_X6_isKept rfl rfl rfl kd_X6_isKept ⟨Nat.le_of_ble_eq_true rfl, Nat.le_of_ble_eq_true rfl⟩) (ro_preV hK hB.1 rfl hB) rfl rfl hl.1 rfl (lv_room (Nat.le_of_ble_eq_true rfl)) dX6_byKind_161 ⟨Nat.zero_le _, Nat.zero_le _⟩) ?_
            refine join_at (nL := 7) 196 [(6, .int ((mS x) (490 + ll).toNatClampNeg)), (5, .int ((mS x) (170 + aa).toNatClampNeg)), (0, .ref (M 0)), (1, .int ll), (2, .int cc), (3, .int aa), (4, .int gg)] [.int (b2i (if (r_isKept x ll cc ((mS x) (170 + aa).toNatClampNeg) gg) = true then true else if ((mS x) (218 + aa).toNatClampNeg) = 1 then if gg < (6 * ((mS x) (490 + ll).toNatClampNeg)) then false else true else false)), .int aa, .ref (M 0)] (fun ls hl => ?_) (fun J_8 => ?_)
            · refine ro_call (va_runV (As := [.int aa, .int (b2i (if (r_isKept x ll cc ((mS x) (170 + aa).toNatClampNeg) gg) = true then true else if ((mS x) (218 + aa).toNatClampNeg) = 1 then if gg < (6 * ((mS x) (490 + ll).toNatClampNeg)) then false else true else false))]) (rest := []) hC (c_X6_byKeeping l G M x aa (if (r_isKept x ll cc ((mS x) (170 + aa).toNatClampNeg) gg) = true then true else if ((mS x) (218 + aa).toNatClampNeg) = 1 then if gg < (6 * ((mS x) (490 + ll).toNatClampNeg)) then false else true else false) hI hO (ib.weak iA (by decide) (by decide))) (cwV 2 hts gX6_byKind_X6_byKeeping rfl rfl rfl kd_X6_byKeeping ⟨Nat.le_of_ble_eq_true rfl, Nat.le_of_ble_eq_true rfl⟩) (ro_preV hK hB.1 rfl hB) rfl rfl hl.1 rfl (lv_room (Nat.le_of_ble_eq_true rfl)) dX6_byKind_196 ⟨Nat.zero_le _, Nat.zero_le _⟩) ?_
              exact ro_iret hx hb hr hlocks dX6_byKind_199 (by (try unfold r_byKind); (repeat rw [if_neg h_1]); (repeat rw [if_neg h_2]); (repeat rw [if_neg h_3]); (repeat rw [if_neg h_4]); (repeat rw [if_pos h_7]); first | done | rfl)
            · refine bz_ne (tgt := 191) hx hb dX6_byKind_164 (by decide) (fun h_9 => ?_) (fun h_9 => ?_)
              · refine lv_iconst (v := 1) hx hb dX6_byKind_191 (by decide) ?_
                refine lv_goto (tgt := 196) hx hb dX6_byKind_192 (by decide) ?_
                have hJ := J_8; (repeat rw [if_pos h_9] at hJ)
                first | exact hJ ls (lv_sub hl [0, 1, 2, 3, 4, 5, 6] rfl) | ((repeat rw [if_pos h_9] at hl); (repeat rw [if_pos h_9]); exact hJ ls (lv_sub hl [0, 1, 2, 3, 4, 5, 6] rfl))
              · refine lv_aload_n hx hb dX6_byKind_167 rfl (lv_at hl 2 rfl) ?_
                refine r_get (C := RX6) (T := TX6) (N := 18) hx hb hts i_X6_byKind_X6 hown hK hB.1 rfl 1 (by decide) k_X6_byKind_fieldLink_9 rfl rfl dX6_byKind_168 ?_
                refine lv_sipush (v := 218) hx hb dX6_byKind_171 (by decide +kernel) ?_
                refine lv_iload_n hx hb dX6_byKind_174 rfl (lv_at hl 5 rfl) ?_
                refine lv_iadd hx hb dX6_byKind_175 ?_
                refine r_iald hx hb hK hB.2.1 (vp_ib (lo := 218) (hi := 233) (ib_add (ib_nI (n := 218) (by decide)) iA (by decide) (by decide)) (by decide) (by decide)) dX6_byKind_176 ?_
                refine lv_iconst (v := 1) hx hb dX6_byKind_177 (by decide) ?_
                refine lv_icmp_ne (tgt := 195) hx hb dX6_byKind_178 (by decide) (fun h_10 => ?_) (fun h_10 => ?_)
                · refine lv_iconst (v := 0) hx hb dX6_byKind_195 (by decide) ?_
                  have hJ := J_8; (repeat rw [if_neg h_9] at hJ); (repeat rw [if_neg h_10] at hJ)
                  first | exact hJ ls (lv_sub hl [0, 1, 2, 3, 4, 5, 6] rfl) | ((repeat rw [if_neg h_9] at hl); (repeat rw [if_neg h_10] at hl); (repeat rw [if_neg h_9]); (repeat rw [if_neg h_10]); exact hJ ls (lv_sub hl [0, 1, 2, 3, 4, 5, 6] rfl))
                · refine lv_iload hx hb dX6_byKind_181 (lv_at hl 6 rfl) ?_
                  refine lv_bipush (v := 6) hx hb dX6_byKind_183 (by decide +kernel) ?_
                  refine lv_iload hx hb dX6_byKind_185 (lv_at hl 0 rfl) ?_
                  refine lv_imul hx hb dX6_byKind_187 ?_
                  refine lv_icmp_lt (tgt := 195) hx hb dX6_byKind_188 (by decide) (fun h_11 => ?_) (fun h_11 => ?_)
                  · refine lv_iconst (v := 0) hx hb dX6_byKind_195 (by decide) ?_
                    have hJ := J_8; (repeat rw [if_neg h_9] at hJ); (repeat rw [if_pos h_10] at hJ); (repeat rw [if_pos h_11] at hJ)
                    first | exact hJ ls (lv_sub hl [0, 1, 2, 3, 4, 5, 6] rfl) | ((repeat rw [if_neg h_9] at hl); (repeat rw [if_pos h_10] at hl); (repeat rw [if_pos h_11] at hl); (repeat rw [if_neg h_9]); (repeat rw [if_pos h_10]); (repeat rw [if_pos h_11]); exact hJ ls (lv_sub hl [0, 1, 2, 3, 4, 5, 6] rfl))
                  · refine lv_iconst (v := 1) hx hb dX6_byKind_191 (by decide) ?_
                    refine lv_goto (tgt := 196) hx hb dX6_byKind_192 (by decide) ?_
                    have hJ := J_8; (repeat rw [if_neg h_9] at hJ); (repeat rw [if_pos h_10] at hJ); (repeat rw [if_neg h_11] at hJ)
                    first | exact hJ ls (lv_sub hl [0, 1, 2, 3, 4, 5, 6] rfl) | ((repeat rw [if_neg h_9] at hl); (repeat rw [if_pos h_10] at hl); (repeat rw [if_neg h_11] at hl); (repeat rw [if_neg h_9]); (repeat rw [if_pos h_10]); (repeat rw [if_neg h_11]); exact hJ ls (lv_sub hl [0, 1, 2, 3, 4, 5, 6] rfl))
          · rcases Classical.em (((mS x) (482 + ll).toNatClampNeg) = 6) with h_12 | h_12
            · refine lv_tableIn (off := 166) (tgt := 200) hx hb dX6_byKind_34 (by rw [h_12]; decide) (by rw [h_12]; decide) (by rw [h_12]; rfl) (by decide) ?_
              refine lv_aload_n hx hb dX6_byKind_200 rfl (lv_at hl 2 rfl) ?_
              refine lv_iload_n hx hb dX6_byKind_201 rfl (lv_at hl 5 rfl) ?_
              refine lv_aload_n hx hb dX6_byKind_202 rfl (lv_at hl 2 rfl) ?_
              refine lv_iload_n hx hb dX6_byKind_203 rfl (lv_at hl 5 rfl) ?_
              refine lv_aload_n hx hb dX6_byKind_204 rfl (lv_at hl 2 rfl) ?_
              refine lv_iload_n hx hb dX6_byKind_205 rfl (lv_at hl 3 rfl) ?_
              refine lv_iload_n hx hb dX6_byKind_206 rfl (lv_at hl 4 rfl) ?_
              refine lv_iload hx hb dX6_byKind_207 (lv_at hl 1 rfl) ?_
              refine lv_iload hx hb dX6_byKind_209 (lv_at hl 6 rfl) ?_
              refine ro_call (va_runV (As := [.int ll, .int cc, .int ((mS x) (170 + aa).toNatClampNeg), .int gg]) (rest := [.int aa, .ref (M 0), .int aa, .ref (M 0)]) hC (c2_X6_isKeptEach l G M x ll cc ((mS x) (170 + aa).toNatClampNeg) gg hI hO (ib.weak iL (by decide) (by decide)) (ib.weak iC (by decide) (by decide)) (ib.weak (mI.at (lo := 170) (hi := 185) (x := 0) (y := 3) hI (ib_add (ib_nI (n := 170) (by decide)) iA (by decide) (by decide)) (by decide) (by decide) (by decide)) (by decide) (by decide))) (cwV 4 hts gX6_byKind_X6_isKeptEach rfl rfl rfl kd_X6_isKeptEach ⟨Nat.le_of_ble_eq_true rfl, Nat.le_of_ble_eq_true rfl⟩) (ro_preV hK hB.1 rfl hB) rfl rfl hl.1 rfl (lv_room (Nat.le_of_ble_eq_true rfl)) dX6_byKind_211 ⟨Nat.zero_le _, Nat.zero_le _⟩) ?_
              refine ro_call (va_runV (As := [.int aa, .int (b2i (r_isKeptEach x ll cc ((mS x) (170 + aa).toNatClampNeg).toNatClampNeg gg))]) (rest := [.int aa, .ref (M 0)]) hC (c_X6_byKeeping l G M x aa (r_isKeptEach x ll cc ((mS x) (170 + aa).toNatClampNeg).toNatClampNeg gg) hI hO (ib.weak iA (by decide) (by decide))) (cwV 2 hts gX6_byKind_X6_byKeeping rfl rfl rfl kd_X6_byKeeping ⟨Nat.le_of_ble_eq_true rfl, Nat.le_of_ble_eq_true rfl⟩) (ro_preV hK hB.1 rfl hB) rfl rfl hl.1 rfl (lv_room (Nat.le_of_ble_eq_true rfl)) dX6_byKind_214 ⟨Nat.zero_le _, Nat.zero_le _⟩) ?_
              refine ro_call (va_runV (As := [.int aa, .int (r_byKeeping x aa (r_isKeptEach x ll cc ((mS x) (170 + aa).toNatClampNeg).toNatClampNeg gg))]) (rest := []) hC (c_X6_asked l G M x aa (r_byKeeping x aa (r_isKeptEach x ll cc ((mS x) (170 + aa).toNatClampNeg).toNatClampNeg gg)) hI hO (ib.weak iA (by decide) (by decide))) (cwV 2 hts gX6_byKind_X6_asked rfl rfl rfl kd_X6_asked ⟨Nat.le_of_ble_eq_true rfl, Nat.le_of_ble_eq_true rfl⟩) (ro_preV hK hB.1 rfl hB) rfl rfl hl.1 rfl (lv_room (Nat.le_of_ble_eq_true rfl)) dX6_byKind_217 ⟨Nat.zero_le _, Nat.zero_le _⟩) ?_
              exact ro_iret hx hb hr hlocks dX6_byKind_220 (by (try unfold r_byKind); (repeat rw [if_neg h_1]); (repeat rw [if_neg h_2]); (repeat rw [if_neg h_3]); (repeat rw [if_neg h_4]); (repeat rw [if_neg h_7]); (repeat rw [if_pos h_12]); first | done | rfl)
            · refine lv_tableOut (tgt := 221) hx hb dX6_byKind_34 (by have z0 := lv_neT h_1 (a := 1) rfl; have z1 := lv_neT h_2 (a := 2) rfl; have z2 := lv_neT h_3 (a := 3) rfl; have z3 := lv_neT h_4 (a := 4) rfl; have z4 := lv_neT h_7 (a := 5) rfl; have z5 := lv_neT h_12 (a := 6) rfl; omega) (by decide) ?_
              refine lv_iconst (v := 1) hx hb dX6_byKind_221 (by decide) ?_
              exact ro_iret hx hb hr hlocks dX6_byKind_222 (by (try unfold r_byKind); (repeat rw [if_neg h_1]); (repeat rw [if_neg h_2]); (repeat rw [if_neg h_3]); (repeat rw [if_neg h_4]); (repeat rw [if_neg h_7]); (repeat rw [if_neg h_12]); first | done | rfl)

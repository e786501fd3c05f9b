theorem i_X6_rule_X6 : ∀ w ∈ wsX60, w ∈ wsX6_rule := fun _ h => List.mem_cons_of_mem _ (List.mem_append_right _ h)
theorem k_X6_rule_fieldLink_9 : Cond.fieldLink RX6 9 "SameWaterModel" "s" "[I" ∈ wsX6_rule := by decide +kernel
def r_ruleAny_st (x : MT) (child : Int32) (k : Nat) (any : Bool) : Bool := (if any = true then true else if ((mS x) (282 + (nI k)).toNatClampNeg) = child then true else false)
def r_ruleAny (x : MT) (child : Int32) (any0 : Bool) : Nat → Bool
  | 0 => any0
  | k + 1 => r_ruleAny_st x child k (r_ruleAny x child any0 k)
def r_ruleGo (x : MT) (child : Int32) : Nat → Nat → Int32 → Int32 → Int32
  | 0, _, best, _ => best
  | n + 1, i, best, most => if (r_ruleAny x child false (((mS x) (2 : Int32).toNatClampNeg).toNatClampNeg)) = true then r_ruleGo x child n (i + 1) (if (r_rightOf x (nI i) child) ≤ most then best else nI i) (if (r_rightOf x (nI i) child) ≤ most then most else r_rightOf x (nI i) child) else best
theorem r_ruleGo_0 (x : MT) (child : Int32) (i : Nat) (best : Int32) (most : Int32) : r_ruleGo x child 0 i best most = (best) := rfl
theorem r_ruleGo_s (x : MT) (child : Int32) (n i : Nat) (best : Int32) (most : Int32) : r_ruleGo x child (n + 1) i best most = (if (r_ruleAny x child false (((mS x) (2 : Int32).toNatClampNeg).toNatClampNeg)) = true then r_ruleGo x child n (i + 1) (if (r_rightOf x (nI i) child) ≤ most then best else nI i) (if (r_rightOf x (nI i) child) ≤ most then most else r_rightOf x (nI i) child) else best) := rfl
def r_rule (x : MT) (child : Int32) : Int32 := if (r_isChild x child) = true then r_ruleGo x child (((mS x) (3 : Int32).toNatClampNeg).toNatClampNeg) 0 (-5) (-1) else (-1)
set_option maxHeartbeats 4000000 in
set_option maxRecDepth 100000 in
theorem c_X6_rule (l : Launch) (G : GG) (M : Nat → Nat) (x : MT) (child : Int32)  (hI : mI (mS x)) (hO : mO (mS x)) (hMW : mW (mS x)) (hN : mN M) : Met l yX6_rule wsX6_rule { frames := 6, cells := 0, slots := 0, locals := 152 } (roP G [.ref (M 0), .int child] (fun H => MAt G M x H)) (wrQ (some (.int ((r_rule x child)))) (fun H => MAt G M x H) (m3 M)) 0 0 (m3 M) := by
  refine Met.ofW (cc := cX6_rule) (maxL := 7) (ret := (some .int)) (by decide) rfl ?_
  intro p e s m args below meth c s₁ Bd hml hv
  obtain ⟨rfl, hK, hB⟩ := hv
  have hx := Bd.exec
  have hb := Bd.bytes
  have hr := Bd.returns
  have hts := atoms_spec (ws := wsX6_rule) Bd.pre
  have hown : s.vm.findClass RX6 = some m.cls := findClass_of_methodNamed Bd.named
  have hlocks := Bd.notSynchronized
  have hC : CallFix p m c cX6_rule 7 s _ wsX6_rule RX6 := ⟨hx, hb, hml, hown, hts⟩
  have hl := lv_entry ([.ref (M 0), .int child]) (n := 7) (Nat.le_of_ble_eq_true rfl)
  rw [lg_entry_eq]
  generalize (lg_sl ([.ref (M 0), .int child]) ++ List.replicate (7 - (lg_sl ([.ref (M 0), .int child])).length) Slot.unset).toArray = ls at hl ⊢
  have hl : lv_has ls 7 [(0, .ref (M 0)), (1, .int child)] := hl
  have hS : wS (m3 M) s.heap s.heap [] := wS.rf
  have f_s := hB
  have hZ := trivial
  have hC2 : ib 0 40 ((mS x) (2 : Int32).toNatClampNeg) := hI 2 (2, 2, 0, 40) (by decide) (Nat.le_refl _) (Nat.le_refl _)
  have hD2 : ((mS x) (2 : Int32).toNatClampNeg).toNatClampNeg ≤ 40 := by have := (hC2.clamp (by decide)).2; omega
  have hC3 : ib 0 8 ((mS x) (3 : Int32).toNatClampNeg) := hI 3 (3, 3, 0, 8) (by decide) (Nat.le_refl _) (Nat.le_refl _)
  have hD3 : ((mS x) (3 : Int32).toNatClampNeg).toNatClampNeg ≤ 8 := by have := (hC3.clamp (by decide)).2; omega
  refine lv_aload_n hx hb dX6_rule_0 rfl (lv_at hl 0 rfl) ?_
  refine lv_iload_n hx hb dX6_rule_1 rfl (lv_at hl 1 rfl) ?_
  refine ro_call (va_runV (As := [.int child]) (rest := []) hC (c_X6_isChild l G M x child) (cwV 1 hts gX6_rule_X6_isChild rfl rfl rfl kd_X6_isChild ⟨Nat.le_of_ble_eq_true rfl, Nat.le_of_ble_eq_true rfl⟩) (ro_preV hK f_s.1 rfl f_s) rfl rfl hl.1 rfl (lv_room (Nat.le_of_ble_eq_true rfl)) dX6_rule_2 ⟨Nat.zero_le _, Nat.zero_le _⟩) ?_
  refine bz_ne (tgt := 10) hx hb dX6_rule_5 (by decide) (fun h_1 => ?_) (fun h_1 => ?_)
  · refine lv_iconst (v := 0) hx hb dX6_rule_10 (by decide) ?_
    refine lv_istore_n (lv' := [(2, .int 0), (0, .ref (M 0)), (1, .int child)]) hx hb dX6_rule_11 rfl hl (by decide) rfl (fun ls hl => ?_)
    refine lv_iconst (v := 0) hx hb dX6_rule_12 (by decide) ?_
    refine lv_istore_n (lv' := [(3, .int 0), (2, .int 0), (0, .ref (M 0)), (1, .int child)]) hx hb dX6_rule_13 rfl hl (by decide) rfl (fun ls hl => ?_)
    refine loop_wr (nL := 7) (α := Nat) (fun k => [(0, .ref (M 0)), (1, .int child), (2, .int (b2i (r_ruleAny x child false k))), (3, .int (nI k))]) (fun k H locs => k ≤ ((mS x) (2 : Int32).toNatClampNeg).toNatClampNeg ∧ (MAt G M x H) ∧ wS (m3 M) s.heap H locs ∧ True) (fun k => (((mS x) (2 : Int32).toNatClampNeg).toNatClampNeg) - k) 0 ⟨Nat.zero_le _, f_s, hS, hZ⟩ (lv_sub hl [2, 3, 1, 0] rfl) (fun k H locs hI9 ih_k ls hl => ?_)
    obtain ⟨hk_k, f_s, hS, hZ⟩ := hI9
    have f_s : MAt G M x H := f_s
    have hl : lv_has ls 7 [(0, .ref (M 0)), (1, .int child), (2, .int (b2i (r_ruleAny x child false k))), (3, .int (nI k))] := hl
    refine lv_iload_n hx hb dX6_rule_14 rfl (lv_at hl 3 rfl) ?_
    refine lv_aload_n hx hb dX6_rule_15 rfl (lv_at hl 0 rfl) ?_
    refine r_get (C := RX6) (T := TX6) (N := 18) hx hb hts i_X6_rule_X6 hown hK f_s.1 rfl 1 (by decide) k_X6_rule_fieldLink_9 rfl rfl dX6_rule_16 ?_
    refine lv_iconst (v := 2) hx hb dX6_rule_19 (by decide) ?_
    refine r_iald hx hb hK f_s.2.1 (vp_ib (lo := 2) (hi := 2) (ib_nI (n := 2) (by decide)) (by decide) (by decide)) dX6_rule_20 ?_
    refine lv_icmp_ge (tgt := 54) hx hb dX6_rule_21 (by decide) (fun h_2 => ?_) (fun h_2 => ?_)
    · have hN_k : k = ((mS x) (2 : Int32).toNatClampNeg).toNatClampNeg := ge_ex (N := ((mS x) (2 : Int32).toNatClampNeg).toNatClampNeg) (cnt_beq hC2 (by decide)) h_2 hk_k (by omega)
      subst hN_k
      refine lv_bipush (v := (-5)) hx hb dX6_rule_54 (by decide +kernel) ?_
      refine lv_istore_n (lv' := [(3, .int (-5)), (0, .ref (M 0)), (1, .int child), (2, .int (b2i (r_ruleAny x child false (((mS x) (2 : Int32).toNatClampNeg).toNatClampNeg))))]) hx hb dX6_rule_56 rfl hl (by decide) rfl (fun ls hl => ?_)
      refine lv_iconst (v := (-1)) hx hb dX6_rule_57 (by decide) ?_
      refine lv_istore (lv' := [(4, .int (-1)), (3, .int (-5)), (0, .ref (M 0)), (1, .int child), (2, .int (b2i (r_ruleAny x child false (((mS x) (2 : Int32).toNatClampNeg).toNatClampNeg))))]) hx hb dX6_rule_58 hl (by decide) rfl (fun ls hl => ?_)
      refine lv_iconst (v := 0) hx hb dX6_rule_60 (by decide) ?_
      refine lv_istore (lv' := [(5, .int 0), (4, .int (-1)), (3, .int (-5)), (0, .ref (M 0)), (1, .int child), (2, .int (b2i (r_ruleAny x child false (((mS x) (2 : Int32).toNatClampNeg).toNatClampNeg))))]) hx hb dX6_rule_61 hl (by decide) rfl (fun ls hl => ?_)
      refine loop_wr (nL := 7) (α := Nat × Int32 × Int32) (fun a9 => [(0, .ref (M 0)), (1, .int child), (2, .int (b2i (r_ruleAny x child false (((mS x) (2 : Int32).toNatClampNeg).toNatClampNeg)))), (3, .int (a9.2.1)), (4, .int (a9.2.2)), (5, .int (nI (a9.1)))]) (fun a9 H locs => (a9.1 ≤ ((mS x) (3 : Int32).toNatClampNeg).toNatClampNeg ∧ r_ruleGo x child ((((mS x) (3 : Int32).toNatClampNeg).toNatClampNeg) - a9.1) a9.1 a9.2.1 a9.2.2 = r_ruleGo x child (((mS x) (3 : Int32).toNatClampNeg).toNatClampNeg) 0 (-5) (-1)) ∧ (MAt G M x H) ∧ wS (m3 M) s.heap H locs ∧ True) (fun a9 => ((mS x) (3 : Int32).toNatClampNeg).toNatClampNeg - a9.1) (0, (-5), (-1)) ⟨⟨(by first | exact Nat.zero_le _ | decide | omega), rfl⟩, f_s, hS, hZ⟩ (lv_sub hl [3, 4, 5, 2, 1, 0] rfl) (fun a9 H locs hI9 ih_i ls hl => ?_)
      obtain ⟨i, best, most⟩ := a9
      obtain ⟨hI9, f_s, hS, hZ⟩ := hI9
      have f_s : MAt G M x H := f_s
      obtain ⟨hk_i, hV⟩ : i ≤ ((mS x) (3 : Int32).toNatClampNeg).toNatClampNeg ∧ r_ruleGo x child ((((mS x) (3 : Int32).toNatClampNeg).toNatClampNeg) - i) i best most = r_ruleGo x child (((mS x) (3 : Int32).toNatClampNeg).toNatClampNeg) 0 (-5) (-1) := hI9
      have hl : lv_has ls 7 [(0, .ref (M 0)), (1, .int child), (2, .int (b2i (r_ruleAny x child false (((mS x) (2 : Int32).toNatClampNeg).toNatClampNeg)))), (3, .int best), (4, .int most), (5, .int (nI i))] := hl
      refine lv_iload hx hb dX6_rule_63 (lv_at hl 5 rfl) ?_
      refine lv_aload_n hx hb dX6_rule_65 rfl (lv_at hl 0 rfl) ?_
      refine r_get (C := RX6) (T := TX6) (N := 18) hx hb hts i_X6_rule_X6 hown hK f_s.1 rfl 1 (by decide) k_X6_rule_fieldLink_9 rfl rfl dX6_rule_66 ?_
      refine lv_iconst (v := 3) hx hb dX6_rule_69 (by decide) ?_
      refine r_iald hx hb hK f_s.2.1 (vp_ib (lo := 3) (hi := 3) (ib_nI (n := 3) (by decide)) (by decide) (by decide)) dX6_rule_70 ?_
      refine lv_icmp_ge (tgt := 123) hx hb dX6_rule_71 (by decide) (fun h_3 => ?_) (fun h_3 => ?_)
      · have hN_i : i = ((mS x) (3 : Int32).toNatClampNeg).toNatClampNeg := ge_ex (N := ((mS x) (3 : Int32).toNatClampNeg).toNatClampNeg) (cnt_beq hC3 (by decide)) h_3 hk_i (by omega)
        subst hN_i
        rw [Nat.sub_self] at hV
        refine lv_iload_n hx hb dX6_rule_123 rfl (lv_at hl 3 rfl) ?_
        have hE9 : r_rule x child = best := (by (try unfold r_rule); (repeat rw [if_pos h_1]); rw [← hV, r_ruleGo_0]; first | done | rfl)
        exact wr_iret hx hb hr hlocks dX6_rule_124 hS (by first | exact f_s | (rw [hE9]; exact f_s)) (by rw [hE9]; first | done | rfl)
      · have hlt_i : i < ((mS x) (3 : Int32).toNatClampNeg).toNatClampNeg := ge_in (N := ((mS x) (3 : Int32).toNatClampNeg).toNatClampNeg) (cnt_beq hC3 (by decide)) h_3 hk_i (by omega)
        obtain ⟨n9, hn9⟩ : ∃ n9, (((mS x) (3 : Int32).toNatClampNeg).toNatClampNeg) - i = n9 + 1 := ⟨(((mS x) (3 : Int32).toNatClampNeg).toNatClampNeg) - i - 1, by omega⟩
        rw [hn9] at hV
        refine lv_iload_n hx hb dX6_rule_74 rfl (lv_at hl 2 rfl) ?_
        refine bz_eq (tgt := 123) hx hb dX6_rule_75 (by decide) (fun h_4 => ?_) (fun h_4 => ?_)
        · refine lv_iload_n hx hb dX6_rule_123 rfl (lv_at hl 3 rfl) ?_
          have hE9 : r_rule x child = best := (by (try unfold r_rule); (repeat rw [if_pos h_1]); rw [← hV, r_ruleGo_s]; (repeat rw [if_neg h_3]); (repeat rw [if_neg h_4]); first | done | rfl)
          exact wr_iret hx hb hr hlocks dX6_rule_124 hS (by first | exact f_s | (rw [hE9]; exact f_s)) (by rw [hE9]; first | done | rfl)
        · refine lv_aload_n hx hb dX6_rule_78 rfl (lv_at hl 0 rfl) ?_
          refine lv_iload hx hb dX6_rule_79 (lv_at hl 5 rfl) ?_
          refine lv_iload_n hx hb dX6_rule_81 rfl (lv_at hl 1 rfl) ?_
          refine wr_call (va_runV (As := [.int (nI i), .int child]) (rest := []) hC (c_X6_rightOf l G M x (nI i) child hI hO hMW hN (ib.weak (ib_ltc hC3 (by omega) (by decide)) (by decide) (by decide)) (law_wf hI hMW (by omega))) (cwV 2 hts gX6_rule_X6_rightOf rfl rfl rfl kd_X6_rightOf ⟨Nat.le_of_ble_eq_true rfl, Nat.le_of_ble_eq_true rfl⟩) (ro_preV hK f_s.1 rfl f_s) rfl rfl hl.1 rfl (lv_room (Nat.le_of_ble_eq_true rfl)) dX6_rule_82 ⟨Nat.zero_le _, Nat.zero_le _⟩) hS (fun q h => h) (fun H locs f_n hq hS => ?_)
          have f_s := f_n
          refine lv_istore (lv' := [(6, .int (r_rightOf x (nI i) child)), (0, .ref (M 0)), (1, .int child), (2, .int (b2i (r_ruleAny x child false (((mS x) (2 : Int32).toNatClampNeg).toNatClampNeg)))), (3, .int best), (4, .int most), (5, .int (nI i))]) hx hb dX6_rule_85 hl (by decide) rfl (fun ls hl => ?_)
          refine lv_iload hx hb dX6_rule_87 (lv_at hl 0 rfl) ?_
          refine lv_iload hx hb dX6_rule_89 (lv_at hl 5 rfl) ?_
          refine join_wr (nL := 7) 100 [(6, .int (r_rightOf x (nI i) child)), (0, .ref (M 0)), (1, .int child), (2, .int (b2i (r_ruleAny x child false (((mS x) (2 : Int32).toNatClampNeg).toNatClampNeg)))), (3, .int best), (4, .int most), (5, .int (nI i))] [.int (if (r_rightOf x (nI i) child) ≤ most then best else nI i)] (fun H locs => (MAt G M x H) ∧ wS (m3 M) s.heap H locs ∧ True) (fun H locs hI ls hl => ?_) (fun J_5 => ?_)
          · obtain ⟨f_s, hS, hZ⟩ := hI
            refine lv_istore_n (lv' := [(3, .int (if (r_rightOf x (nI i) child) ≤ most then best else nI i)), (6, .int (r_rightOf x (nI i) child)), (0, .ref (M 0)), (1, .int child), (2, .int (b2i (r_ruleAny x child false (((mS x) (2 : Int32).toNatClampNeg).toNatClampNeg)))), (4, .int most), (5, .int (nI i))]) hx hb dX6_rule_100 rfl hl (by decide) rfl (fun ls hl => ?_)
            refine lv_iload hx hb dX6_rule_101 (lv_at hl 1 rfl) ?_
            refine lv_iload hx hb dX6_rule_103 (lv_at hl 5 rfl) ?_
            refine join_wr (nL := 7) 115 [(3, .int (if (r_rightOf x (nI i) child) ≤ most then best else nI i)), (6, .int (r_rightOf x (nI i) child)), (0, .ref (M 0)), (1, .int child), (2, .int (b2i (r_ruleAny x child false (((mS x) (2 : Int32).toNatClampNeg).toNatClampNeg)))), (4, .int most), (5, .int (nI i))] [.int (if (r_rightOf x (nI i) child) ≤ most then most else r_rightOf x (nI i) child)] (fun H locs => (MAt G M x H) ∧ wS (m3 M) s.heap H locs ∧ True) (fun H locs hI ls hl => ?_) (fun J_6 => ?_)
            · obtain ⟨f_s, hS, hZ⟩ := hI
              refine lv_istore (lv' := [(4, .int (if (r_rightOf x (nI i) child) ≤ most then most else r_rightOf x (nI i) child)), (3, .int (if (r_rightOf x (nI i) child) ≤ most then best else nI i)), (6, .int (r_rightOf x (nI i) child)), (0, .ref (M 0)), (1, .int child), (2, .int (b2i (r_ruleAny x child false (((mS x) (2 : Int32).toNatClampNeg).toNatClampNeg)))), (5, .int (nI i))]) hx hb dX6_rule_115 hl (by decide) rfl (fun ls hl => ?_)
              refine lv_iinc (v := (nI i) + 1) (lv' := [(5, .int ((nI i) + 1)), (4, .int (if (r_rightOf x (nI i) child) ≤ most then most else r_rightOf x (nI i) child)), (3, .int (if (r_rightOf x (nI i) child) ≤ most then best else nI i)), (6, .int (r_rightOf x (nI i) child)), (0, .ref (M 0)), (1, .int child), (2, .int (b2i (r_ruleAny x child false (((mS x) (2 : Int32).toNatClampNeg).toNatClampNeg))))]) hx hb dX6_rule_117 hl (k := 6) rfl rfl (by decide) rfl (fun ls hl => ?_)
              refine lv_goto (tgt := 63) hx hb dX6_rule_120 (by decide) ?_
              have hE : r_ruleGo x child n9 (i + 1) (if (r_rightOf x (nI i) child) ≤ most then best else nI i) (if (r_rightOf x (nI i) child) ≤ most then most else r_rightOf x (nI i) child) = r_ruleGo x child (((mS x) (3 : Int32).toNatClampNeg).toNatClampNeg) 0 (-5) (-1) := (by rw [← hV, r_ruleGo_s]; (repeat rw [if_pos h_4]); first | done | rfl)
              refine ih_i ((i + 1, if (r_rightOf x (nI i) child) ≤ most then best else nI i, if (r_rightOf x (nI i) child) ≤ most then most else r_rightOf x (nI i) child)) _ _ ⟨⟨(show i + 1 ≤ ((mS x) (3 : Int32).toNatClampNeg).toNatClampNeg by omega), (by show r_ruleGo x child ((((mS x) (3 : Int32).toNatClampNeg).toNatClampNeg) - (i + 1)) (i + 1) (if (r_rightOf x (nI i) child) ≤ most then best else nI i) (if (r_rightOf x (nI i) child) ≤ most then most else r_rightOf x (nI i) child) = _; rw [show (((mS x) (3 : Int32).toNatClampNeg).toNatClampNeg) - (i + 1) = n9 by omega]; exact hE)⟩, f_s, hS, hZ⟩ (show (((mS x) (3 : Int32).toNatClampNeg).toNatClampNeg) - (i + 1) < (((mS x) (3 : Int32).toNatClampNeg).toNatClampNeg) - i by omega) ls ?_
              show lv_has ls 7 [(0, .ref (M 0)), (1, .int child), (2, .int (b2i (r_ruleAny x child false (((mS x) (2 : Int32).toNatClampNeg).toNatClampNeg)))), (3, .int (if (r_rightOf x (nI i) child) ≤ most then best else nI i)), (4, .int (if (r_rightOf x (nI i) child) ≤ most then most else r_rightOf x (nI i) child)), (5, .int (nI (i + 1)))]
              rw [nI_succ]
              exact lv_sub hl [4, 5, 6, 2, 1, 0] rfl
            · refine lv_icmp_le (tgt := 113) hx hb dX6_rule_105 (by decide) (fun h_7 => ?_) (fun h_7 => ?_)
              · refine lv_iload hx hb dX6_rule_113 (lv_at hl 5 rfl) ?_
                have hJ := J_6; (repeat rw [if_pos h_7] at hJ)
                first | exact hJ _ _ ⟨f_s, hS, hZ⟩ ls (lv_sub hl [0, 1, 2, 3, 4, 5, 6] rfl) | ((repeat rw [if_pos h_7] at hl); (repeat rw [if_pos h_7]); exact hJ _ _ ⟨f_s, hS, hZ⟩ ls (lv_sub hl [0, 1, 2, 3, 4, 5, 6] rfl))
              · refine lv_iload hx hb dX6_rule_108 (lv_at hl 1 rfl) ?_
                refine lv_goto (tgt := 115) hx hb dX6_rule_110 (by decide) ?_
                have hJ := J_6; (repeat rw [if_neg h_7] at hJ)
                first | exact hJ _ _ ⟨f_s, hS, hZ⟩ ls (lv_sub hl [0, 1, 2, 3, 4, 5, 6] rfl) | ((repeat rw [if_neg h_7] at hl); (repeat rw [if_neg h_7]); exact hJ _ _ ⟨f_s, hS, hZ⟩ ls (lv_sub hl [0, 1, 2, 3, 4, 5, 6] rfl))
          · refine lv_icmp_le (tgt := 99) hx hb dX6_rule_91 (by decide) (fun h_8 => ?_) (fun h_8 => ?_)
            · refine lv_iload_n hx hb dX6_rule_99 rfl (lv_at hl 4 rfl) ?_
              have hJ := J_5; (repeat rw [if_pos h_8] at hJ)
              first | exact hJ _ _ ⟨f_s, hS, hZ⟩ ls (lv_sub hl [0, 1, 2, 3, 4, 5, 6] rfl) | ((repeat rw [if_pos h_8] at hl); (repeat rw [if_pos h_8]); exact hJ _ _ ⟨f_s, hS, hZ⟩ ls (lv_sub hl [0, 1, 2, 3, 4, 5, 6] rfl))
            · refine lv_iload hx hb dX6_rule_94 (lv_at hl 6 rfl) ?_
              refine lv_goto (tgt := 100) hx hb dX6_rule_96 (by decide) ?_
              have hJ := J_5; (repeat rw [if_neg h_8] at hJ)
              first | exact hJ _ _ ⟨f_s, hS, hZ⟩ ls (lv_sub hl [0, 1, 2, 3, 4, 5, 6] rfl) | ((repeat rw [if_neg h_8] at hl); (repeat rw [if_neg h_8]); exact hJ _ _ ⟨f_s, hS, hZ⟩ ls (lv_sub hl [0, 1, 2, 3, 4, 5, 6] rfl))
    · have hlt_k : k < ((mS x) (2 : Int32).toNatClampNeg).toNatClampNeg := ge_in (N := ((mS x) (2 : Int32).toNatClampNeg).toNatClampNeg) (cnt_beq hC2 (by decide)) h_2 hk_k (by omega)
      refine lv_iload_n hx hb dX6_rule_24 rfl (lv_at hl 2 rfl) ?_
      refine join_wr (nL := 7) 47 [(0, .ref (M 0)), (1, .int child), (2, .int (b2i (r_ruleAny x child false k))), (3, .int (nI k))] [.int (b2i (if (r_ruleAny x child false k) = true then true else if ((mS x) (282 + (nI k)).toNatClampNeg) = child then true else false))] (fun H locs => (MAt G M x H) ∧ wS (m3 M) s.heap H locs ∧ True) (fun H locs hI ls hl => ?_) (fun J_9 => ?_)
      · obtain ⟨f_s, hS, hZ⟩ := hI
        refine lv_istore_n (lv' := [(2, .int (b2i (if (r_ruleAny x child false k) = true then true else if ((mS x) (282 + (nI k)).toNatClampNeg) = child then true else false))), (0, .ref (M 0)), (1, .int child), (3, .int (nI k))]) hx hb dX6_rule_47 rfl hl (by decide) rfl (fun ls hl => ?_)
        refine lv_iinc (v := (nI k) + 1) (lv' := [(3, .int ((nI k) + 1)), (2, .int (b2i (if (r_ruleAny x child false k) = true then true else if ((mS x) (282 + (nI k)).toNatClampNeg) = child then true else false))), (0, .ref (M 0)), (1, .int child)]) hx hb dX6_rule_48 hl (k := 3) rfl rfl (by decide) rfl (fun ls hl => ?_)
        refine lv_goto (tgt := 14) hx hb dX6_rule_51 (by decide) ?_
        have hE : (r_ruleAny x child false (k + 1)) = (if (r_ruleAny x child false k) = true then true else if ((mS x) (282 + (nI k)).toNatClampNeg) = child then true else false) := (by show r_ruleAny_st x child k (r_ruleAny x child false k) = _; (try unfold r_ruleAny_st); first | done | rfl)
        refine ih_k (k + 1) _ _ ⟨(show k + 1 ≤ ((mS x) (2 : Int32).toNatClampNeg).toNatClampNeg by omega), f_s, hS, hZ⟩ (show (((mS x) (2 : Int32).toNatClampNeg).toNatClampNeg) - (k + 1) < (((mS x) (2 : Int32).toNatClampNeg).toNatClampNeg) - k by omega) ls ?_
        show lv_has ls 7 [(0, .ref (M 0)), (1, .int child), (2, .int (b2i (r_ruleAny x child false (k + 1)))), (3, .int (nI (k + 1)))]
        rw [nI_succ, hE]
        exact lv_sub hl [2, 3, 1, 0] rfl
      · refine bz_ne (tgt := 42) hx hb dX6_rule_25 (by decide) (fun h_10 => ?_) (fun h_10 => ?_)
        · refine lv_iconst (v := 1) hx hb dX6_rule_42 (by decide) ?_
          refine lv_goto (tgt := 47) hx hb dX6_rule_43 (by decide) ?_
          have hJ := J_9; (repeat rw [if_pos h_10] at hJ)
          first | exact hJ _ _ ⟨f_s, hS, hZ⟩ ls (lv_sub hl [0, 1, 2, 3] rfl) | ((repeat rw [if_pos h_10] at hl); (repeat rw [if_pos h_10]); exact hJ _ _ ⟨f_s, hS, hZ⟩ ls (lv_sub hl [0, 1, 2, 3] rfl))
        · refine lv_aload_n hx hb dX6_rule_28 rfl (lv_at hl 0 rfl) ?_
          refine r_get (C := RX6) (T := TX6) (N := 18) hx hb hts i_X6_rule_X6 hown hK f_s.1 rfl 1 (by decide) k_X6_rule_fieldLink_9 rfl rfl dX6_rule_29 ?_
          refine lv_sipush (v := 282) hx hb dX6_rule_32 (by decide +kernel) ?_
          refine lv_iload_n hx hb dX6_rule_35 rfl (lv_at hl 3 rfl) ?_
          refine lv_iadd hx hb dX6_rule_36 ?_
          refine r_iald hx hb hK f_s.2.1 (vp_ib (lo := 282) (hi := 321) (ib_add (ib_nI (n := 282) (by decide)) (ib_ltc hC2 (by omega) (by decide)) (by decide) (by decide)) (by decide) (by decide)) dX6_rule_37 ?_
          refine lv_iload_n hx hb dX6_rule_38 rfl (lv_at hl 1 rfl) ?_
          refine lv_icmp_ne (tgt := 46) hx hb dX6_rule_39 (by decide) (fun h_11 => ?_) (fun h_11 => ?_)
          · refine lv_iconst (v := 0) hx hb dX6_rule_46 (by decide) ?_
            have hJ := J_9; (repeat rw [if_neg h_10] at hJ); (repeat rw [if_neg h_11] at hJ)
            first | exact hJ _ _ ⟨f_s, hS, hZ⟩ ls (lv_sub hl [0, 1, 2, 3] rfl) | ((repeat rw [if_neg h_10] at hl); (repeat rw [if_neg h_11] at hl); (repeat rw [if_neg h_10]); (repeat rw [if_neg h_11]); exact hJ _ _ ⟨f_s, hS, hZ⟩ ls (lv_sub hl [0, 1, 2, 3] rfl))
          · refine lv_iconst (v := 1) hx hb dX6_rule_42 (by decide) ?_
            refine lv_goto (tgt := 47) hx hb dX6_rule_43 (by decide) ?_
            have hJ := J_9; (repeat rw [if_neg h_10] at hJ); (repeat rw [if_pos h_11] at hJ)
            first | exact hJ _ _ ⟨f_s, hS, hZ⟩ ls (lv_sub hl [0, 1, 2, 3] rfl) | ((repeat rw [if_neg h_10] at hl); (repeat rw [if_pos h_11] at hl); (repeat rw [if_neg h_10]); (repeat rw [if_pos h_11]); exact hJ _ _ ⟨f_s, hS, hZ⟩ ls (lv_sub hl [0, 1, 2, 3] rfl))
  · refine lv_iconst (v := (-1)) hx hb dX6_rule_8 (by decide) ?_
    have hE9 : r_rule x child = (-1) := (by (try unfold r_rule); (repeat rw [if_neg h_1]); first | done | rfl)
    exact wr_iret hx hb hr hlocks dX6_rule_9 hS (by first | exact f_s | (rw [hE9]; exact f_s)) (by rw [hE9]; first | done | rfl)
theorem i_X6_parts_X6 : ∀ w ∈ wsX60, w ∈ wsX6_parts := fun _ h => List.mem_cons_of_mem _ (List.mem_append_right _ h)
theorem k_X6_parts_fieldLink_9 : Cond.fieldLink RX6 9 "SameWaterModel" "s" "[I" ∈ wsX6_parts := by decide +kernel
def r_partsIt_st (x : MT) (law other : Int32) (k : Nat) (j : Nat) (cm : Int32) : Int32 := cm + (b2i (if (r_tellsOf x law (nI k) (nI j) ((mS x) (130 + (nI k)).toNatClampNeg)) = (r_tellsOf x other (nI k) (nI j) ((mS x) (130 + (nI k)).toNatClampNeg)) then false else true))
def r_partsIt (x : MT) (law other : Int32) (k : Nat) (cm0 : Int32) : Nat → Int32
  | 0 => cm0
  | j + 1 => r_partsIt_st x law other k j (r_partsIt x law other k cm0 j)
def r_partsGo (x : MT) (law other : Int32) : Nat → Nat → Int32 → Int32
  | 0, _, cn => cn
  | n + 1, k, cn => r_partsGo x law other n (k + 1) (r_partsIt x law other k cn (((mS x) (1 : Int32).toNatClampNeg).toNatClampNeg))
theorem r_partsGo_0 (x : MT) (law other : Int32) (k : Nat) (cn : Int32) : r_partsGo x law other 0 k cn = (cn) := rfl
theorem r_partsGo_s (x : MT) (law other : Int32) (n k : Nat) (cn : Int32) : r_partsGo x law other (n + 1) k cn = (r_partsGo x law other n (k + 1) (r_partsIt x law other k cn (((mS x) (1 : Int32).toNatClampNeg).toNatClampNeg))) := rfl
def r_parts (x : MT) (law : Int32) (other : Int32) : Int32 := if (r_isLaw x law) = true then if (r_isLaw x other) = true then r_partsGo x law other (((mS x) (0 : Int32).toNatClampNeg).toNatClampNeg) 0 0 else (-1) else (-1)
set_option maxHeartbeats 4000000 in
set_option maxRecDepth 100000 in
theorem c_X6_parts (l : Launch) (G : GG) (M : Nat → Nat) (x : MT) (law : Int32) (other : Int32)  (hI : mI (mS x)) (hO : mO (mS x)) (hMW : mW (mS x)) (hN : mN M) : Met l yX6_parts wsX6_parts { frames := 4, cells := 0, slots := 0, locals := 106 } (roP G [.ref (M 0), .int law, .int other] (fun H => MAt G M x H)) (wrQ (some (.int ((r_parts x law other)))) (fun H => MAt G M x H) (m3 M)) 0 0 (m3 M) := by
  refine Met.ofW (cc := cX6_parts) (maxL := 6) (ret := (some .int)) (by decide) rfl ?_
  intro p e s m args below meth c s₁ Bd hml hv
  obtain ⟨rfl, hK, hB⟩ := hv
  have hx := Bd.exec
  have hb := Bd.bytes
  have hr := Bd.returns
  have hts := atoms_spec (ws := wsX6_parts) Bd.pre
  have hown : s.vm.findClass RX6 = some m.cls := findClass_of_methodNamed Bd.named
  have hlocks := Bd.notSynchronized
  have hC : CallFix p m c cX6_parts 6 s _ wsX6_parts RX6 := ⟨hx, hb, hml, hown, hts⟩
  have hl := lv_entry ([.ref (M 0), .int law, .int other]) (n := 6) (Nat.le_of_ble_eq_true rfl)
  rw [lg_entry_eq]
  generalize (lg_sl ([.ref (M 0), .int law, .int other]) ++ List.replicate (6 - (lg_sl ([.ref (M 0), .int law, .int other])).length) Slot.unset).toArray = ls at hl ⊢
  have hl : lv_has ls 6 [(0, .ref (M 0)), (1, .int law), (2, .int other)] := hl
  have hS : wS (m3 M) s.heap s.heap [] := wS.rf
  have f_s := hB
  have hZ := trivial
  have hC0 : ib 0 8 ((mS x) (0 : Int32).toNatClampNeg) := hI 0 (0, 0, 0, 8) (by decide) (Nat.le_refl _) (Nat.le_refl _)
  have hD0 : ((mS x) (0 : Int32).toNatClampNeg).toNatClampNeg ≤ 8 := by have := (hC0.clamp (by decide)).2; omega
  have hC1 : ib 0 16 ((mS x) (1 : Int32).toNatClampNeg) := hI 1 (1, 1, 0, 16) (by decide) (Nat.le_refl _) (Nat.le_refl _)
  have hD1 : ((mS x) (1 : Int32).toNatClampNeg).toNatClampNeg ≤ 16 := by have := (hC1.clamp (by decide)).2; omega
  refine lv_aload_n hx hb dX6_parts_0 rfl (lv_at hl 0 rfl) ?_
  refine lv_iload_n hx hb dX6_parts_1 rfl (lv_at hl 1 rfl) ?_
  refine ro_call (va_runV (As := [.int law]) (rest := []) hC (c_X6_isLaw l G M x law) (cwV 1 hts gX6_parts_X6_isLaw rfl rfl rfl kd_X6_isLaw ⟨Nat.le_of_ble_eq_true rfl, Nat.le_of_ble_eq_true rfl⟩) (ro_preV hK f_s.1 rfl f_s) rfl rfl hl.1 rfl (lv_room (Nat.le_of_ble_eq_true rfl)) dX6_parts_2 ⟨Nat.zero_le _, Nat.zero_le _⟩) ?_
  refine bz_eq (tgt := 16) hx hb dX6_parts_5 (by decide) (fun h_1 => ?_) (fun h_1 => ?_)
  · refine lv_iconst (v := (-1)) hx hb dX6_parts_16 (by decide) ?_
    have hE9 : r_parts x law other = (-1) := (by (try unfold r_parts); (repeat rw [if_neg h_1]); first | done | rfl)
    exact wr_iret hx hb hr hlocks dX6_parts_17 hS (by first | exact f_s | (rw [hE9]; exact f_s)) (by rw [hE9]; first | done | rfl)
  · refine lv_aload_n hx hb dX6_parts_8 rfl (lv_at hl 0 rfl) ?_
    refine lv_iload_n hx hb dX6_parts_9 rfl (lv_at hl 2 rfl) ?_
    refine ro_call (va_runV (As := [.int other]) (rest := []) hC (c_X6_isLaw l G M x other) (cwV 1 hts gX6_parts_X6_isLaw rfl rfl rfl kd_X6_isLaw ⟨Nat.le_of_ble_eq_true rfl, Nat.le_of_ble_eq_true rfl⟩) (ro_preV hK f_s.1 rfl f_s) rfl rfl hl.1 rfl (lv_room (Nat.le_of_ble_eq_true rfl)) dX6_parts_10 ⟨Nat.zero_le _, Nat.zero_le _⟩) ?_
    refine bz_ne (tgt := 18) hx hb dX6_parts_13 (by decide) (fun h_2 => ?_) (fun h_2 => ?_)
    · refine lv_iconst (v := 0) hx hb dX6_parts_18 (by decide) ?_
      refine lv_istore_n (lv' := [(3, .int 0), (0, .ref (M 0)), (1, .int law), (2, .int other)]) hx hb dX6_parts_19 rfl hl (by decide) rfl (fun ls hl => ?_)
      refine lv_iconst (v := 0) hx hb dX6_parts_20 (by decide) ?_
      refine lv_istore (lv' := [(4, .int 0), (3, .int 0), (0, .ref (M 0)), (1, .int law), (2, .int other)]) hx hb dX6_parts_21 hl (by decide) rfl (fun ls hl => ?_)
      refine loop_wr (nL := 6) (α := Nat × Int32) (fun a9 => [(0, .ref (M 0)), (1, .int law), (2, .int other), (3, .int (a9.2)), (4, .int (nI (a9.1)))]) (fun a9 H locs => (a9.1 ≤ ((mS x) (0 : Int32).toNatClampNeg).toNatClampNeg ∧ r_partsGo x law other ((((mS x) (0 : Int32).toNatClampNeg).toNatClampNeg) - a9.1) a9.1 a9.2 = r_partsGo x law other (((mS x) (0 : Int32).toNatClampNeg).toNatClampNeg) 0 0) ∧ (MAt G M x H) ∧ wS (m3 M) s.heap H locs ∧ True) (fun a9 => ((mS x) (0 : Int32).toNatClampNeg).toNatClampNeg - a9.1) (0, 0) ⟨⟨(by first | exact Nat.zero_le _ | decide | omega), rfl⟩, f_s, hS, hZ⟩ (lv_sub hl [2, 3, 4, 1, 0] rfl) (fun a9 H locs hI9 ih_k ls hl => ?_)
      obtain ⟨k, cn⟩ := a9
      obtain ⟨hI9, f_s, hS, hZ⟩ := hI9
      have f_s : MAt G M x H := f_s
      obtain ⟨hk_k, hV⟩ : k ≤ ((mS x) (0 : Int32).toNatClampNeg).toNatClampNeg ∧ r_partsGo x law other ((((mS x) (0 : Int32).toNatClampNeg).toNatClampNeg) - k) k cn = r_partsGo x law other (((mS x) (0 : Int32).toNatClampNeg).toNatClampNeg) 0 0 := hI9
      have hl : lv_has ls 6 [(0, .ref (M 0)), (1, .int law), (2, .int other), (3, .int cn), (4, .int (nI k))] := hl
      refine lv_iload hx hb dX6_parts_23 (lv_at hl 4 rfl) ?_
      refine lv_aload_n hx hb dX6_parts_25 rfl (lv_at hl 0 rfl) ?_
      refine r_get (C := RX6) (T := TX6) (N := 18) hx hb hts i_X6_parts_X6 hown hK f_s.1 rfl 1 (by decide) k_X6_parts_fieldLink_9 rfl rfl dX6_parts_26 ?_
      refine lv_iconst (v := 0) hx hb dX6_parts_29 (by decide) ?_
      refine r_iald hx hb hK f_s.2.1 (vp_ib (lo := 0) (hi := 0) (ib_nI (n := 0) (by decide)) (by decide) (by decide)) dX6_parts_30 ?_
      refine lv_icmp_ge (tgt := 111) hx hb dX6_parts_31 (by decide) (fun h_3 => ?_) (fun h_3 => ?_)
      · have hN_k : k = ((mS x) (0 : Int32).toNatClampNeg).toNatClampNeg := ge_ex (N := ((mS x) (0 : Int32).toNatClampNeg).toNatClampNeg) (cnt_beq hC0 (by decide)) h_3 hk_k (by omega)
        subst hN_k
        rw [Nat.sub_self] at hV
        refine lv_iload_n hx hb dX6_parts_111 rfl (lv_at hl 3 rfl) ?_
        have hE9 : r_parts x law other = cn := (by (try unfold r_parts); (repeat rw [if_pos h_1]); (repeat rw [if_pos h_2]); rw [← hV, r_partsGo_0]; first | done | rfl)
        exact wr_iret hx hb hr hlocks dX6_parts_112 hS (by first | exact f_s | (rw [hE9]; exact f_s)) (by rw [hE9]; first | done | rfl)
      · have hlt_k : k < ((mS x) (0 : Int32).toNatClampNeg).toNatClampNeg := ge_in (N := ((mS x) (0 : Int32).toNatClampNeg).toNatClampNeg) (cnt_beq hC0 (by decide)) h_3 hk_k (by omega)
        obtain ⟨n9, hn9⟩ : ∃ n9, (((mS x) (0 : Int32).toNatClampNeg).toNatClampNeg) - k = n9 + 1 := ⟨(((mS x) (0 : Int32).toNatClampNeg).toNatClampNeg) - k - 1, by omega⟩
        rw [hn9] at hV
        refine lv_iconst (v := 0) hx hb dX6_parts_34 (by decide) ?_
        refine lv_istore (lv' := [(5, .int 0), (0, .ref (M 0)), (1, .int law), (2, .int other), (3, .int cn), (4, .int (nI k))]) hx hb dX6_parts_35 hl (by decide) rfl (fun ls hl => ?_)
        refine loop_wr (nL := 6) (α := Nat) (fun j => [(0, .ref (M 0)), (1, .int law), (2, .int other), (3, .int (r_partsIt x law other k cn j)), (4, .int (nI k)), (5, .int (nI j))]) (fun j H locs => j ≤ ((mS x) (1 : Int32).toNatClampNeg).toNatClampNeg ∧ (MAt G M x H) ∧ wS (m3 M) s.heap H locs ∧ True) (fun j => (((mS x) (1 : Int32).toNatClampNeg).toNatClampNeg) - j) 0 ⟨Nat.zero_le _, f_s, hS, hZ⟩ (lv_sub hl [1, 2, 3, 4, 5, 0] rfl) (fun j H locs hI9 ih_j ls hl => ?_)
        obtain ⟨hk_j, f_s, hS, hZ⟩ := hI9
        have f_s : MAt G M x H := f_s
        have hl : lv_has ls 6 [(0, .ref (M 0)), (1, .int law), (2, .int other), (3, .int (r_partsIt x law other k cn j)), (4, .int (nI k)), (5, .int (nI j))] := hl
        refine lv_iload hx hb dX6_parts_37 (lv_at hl 5 rfl) ?_
        refine lv_aload_n hx hb dX6_parts_39 rfl (lv_at hl 0 rfl) ?_
        refine r_get (C := RX6) (T := TX6) (N := 18) hx hb hts i_X6_parts_X6 hown hK f_s.1 rfl 1 (by decide) k_X6_parts_fieldLink_9 rfl rfl dX6_parts_40 ?_
        refine lv_iconst (v := 1) hx hb dX6_parts_43 (by decide) ?_
        refine r_iald hx hb hK f_s.2.1 (vp_ib (lo := 1) (hi := 1) (ib_nI (n := 1) (by decide)) (by decide) (by decide)) dX6_parts_44 ?_
        refine lv_icmp_ge (tgt := 105) hx hb dX6_parts_45 (by decide) (fun h_4 => ?_) (fun h_4 => ?_)
        · have hN_j : j = ((mS x) (1 : Int32).toNatClampNeg).toNatClampNeg := ge_ex (N := ((mS x) (1 : Int32).toNatClampNeg).toNatClampNeg) (cnt_beq hC1 (by decide)) h_4 hk_j (by omega)
          subst hN_j
          refine lv_iinc (v := (nI k) + 1) (lv' := [(4, .int ((nI k) + 1)), (0, .ref (M 0)), (1, .int law), (2, .int other), (3, .int (r_partsIt x law other k cn (((mS x) (1 : Int32).toNatClampNeg).toNatClampNeg))), (5, .int (nI (((mS x) (1 : Int32).toNatClampNeg).toNatClampNeg)))]) hx hb dX6_parts_105 hl (k := 4) rfl rfl (by decide) rfl (fun ls hl => ?_)
          refine lv_goto (tgt := 23) hx hb dX6_parts_108 (by decide) ?_
          have hE : r_partsGo x law other n9 (k + 1) (r_partsIt x law other k cn (((mS x) (1 : Int32).toNatClampNeg).toNatClampNeg)) = r_partsGo x law other (((mS x) (0 : Int32).toNatClampNeg).toNatClampNeg) 0 0 := (by rw [← hV, r_partsGo_s]; first | done | rfl)
          refine ih_k ((k + 1, (r_partsIt x law other k cn (((mS x) (1 : Int32).toNatClampNeg).toNatClampNeg)))) _ _ ⟨⟨(show k + 1 ≤ ((mS x) (0 : Int32).toNatClampNeg).toNatClampNeg by omega), (by show r_partsGo x law other ((((mS x) (0 : Int32).toNatClampNeg).toNatClampNeg) - (k + 1)) (k + 1) (r_partsIt x law other k cn (((mS x) (1 : Int32).toNatClampNeg).toNatClampNeg)) = _; rw [show (((mS x) (0 : Int32).toNatClampNeg).toNatClampNeg) - (k + 1) = n9 by omega]; exact hE)⟩, f_s, hS, hZ⟩ (show (((mS x) (0 : Int32).toNatClampNeg).toNatClampNeg) - (k + 1) < (((mS x) (0 : Int32).toNatClampNeg).toNatClampNeg) - k by omega) ls ?_
          show lv_has ls 6 [(0, .ref (M 0)), (1, .int law), (2, .int other), (3, .int (r_partsIt x law other k cn (((mS x) (1 : Int32).toNatClampNeg).toNatClampNeg))), (4, .int (nI (k + 1)))]
          rw [nI_succ]
          exact lv_sub hl [1, 2, 3, 4, 0] rfl
        · have hlt_j : j < ((mS x) (1 : Int32).toNatClampNeg).toNatClampNeg := ge_in (N := ((mS x) (1 : Int32).toNatClampNeg).toNatClampNeg) (cnt_beq hC1 (by decide)) h_4 hk_j (by omega)
          refine lv_iload_n hx hb dX6_parts_48 rfl (lv_at hl 3 rfl) ?_
          refine lv_aload_n hx hb dX6_parts_49 rfl (lv_at hl 0 rfl) ?_
          refine lv_iload_n hx hb dX6_parts_50 rfl (lv_at hl 1 rfl) ?_
          refine lv_iload hx hb dX6_parts_51 (lv_at hl 4 rfl) ?_
          refine lv_iload hx hb dX6_parts_53 (lv_at hl 5 rfl) ?_
          refine lv_aload_n hx hb dX6_parts_55 rfl (lv_at hl 0 rfl) ?_
          refine r_get (C := RX6) (T := TX6) (N := 18) hx hb hts i_X6_parts_X6 hown hK f_s.1 rfl 1 (by decide) k_X6_parts_fieldLink_9 rfl rfl dX6_parts_56 ?_
          refine lv_sipush (v := 130) hx hb dX6_parts_59 (by decide +kernel) ?_
          refine lv_iload hx hb dX6_parts_62 (lv_at hl 4 rfl) ?_
          refine lv_iadd hx hb dX6_parts_64 ?_
          refine r_iald hx hb hK f_s.2.1 (vp_ib (lo := 130) (hi := 137) (ib_add (ib_nI (n := 130) (by decide)) (ib_ltc hC0 (by omega) (by decide)) (by decide) (by decide)) (by decide) (by decide)) dX6_parts_65 ?_
          refine wr_call (va_runV (As := [.int law, .int (nI k), .int (nI j), .int ((mS x) (130 + (nI k)).toNatClampNeg)]) (rest := [.int (r_partsIt x law other k cn j)]) hC (c_X6_tellsOf l G M x law (nI k) (nI j) ((mS x) (130 + (nI k)).toNatClampNeg) hI hO hMW hN (ib.weak (isLaw_ib hI h_1) (by decide) (by decide)) (ib.weak (ib_ltc hC0 (by omega) (by decide)) (by decide) (by decide)) (ib.weak (ib_ltc hC1 (by omega) (by decide)) (by decide) (by decide)) (isLaw_wf hI hMW h_1)) (cwV 4 hts gX6_parts_X6_tellsOf rfl rfl rfl kd_X6_tellsOf ⟨Nat.le_of_ble_eq_true rfl, Nat.le_of_ble_eq_true rfl⟩) (ro_preV hK f_s.1 rfl f_s) rfl rfl hl.1 rfl (lv_room (Nat.le_of_ble_eq_true rfl)) dX6_parts_66 ⟨Nat.zero_le _, Nat.zero_le _⟩) hS (fun q h => h) (fun H locs f_n hq hS => ?_)
          have f_s := f_n
          refine lv_aload_n hx hb dX6_parts_69 rfl (lv_at hl 0 rfl) ?_
          refine lv_iload_n hx hb dX6_parts_70 rfl (lv_at hl 2 rfl) ?_
          refine lv_iload hx hb dX6_parts_71 (lv_at hl 4 rfl) ?_
          refine lv_iload hx hb dX6_parts_73 (lv_at hl 5 rfl) ?_
          refine lv_aload_n hx hb dX6_parts_75 rfl (lv_at hl 0 rfl) ?_
          refine r_get (C := RX6) (T := TX6) (N := 18) hx hb hts i_X6_parts_X6 hown hK f_s.1 rfl 1 (by decide) k_X6_parts_fieldLink_9 rfl rfl dX6_parts_76 ?_
          refine lv_sipush (v := 130) hx hb dX6_parts_79 (by decide +kernel) ?_
          refine lv_iload hx hb dX6_parts_82 (lv_at hl 4 rfl) ?_
          refine lv_iadd hx hb dX6_parts_84 ?_
          refine r_iald hx hb hK f_s.2.1 (vp_ib (lo := 130) (hi := 137) (ib_add (ib_nI (n := 130) (by decide)) (ib_ltc hC0 (by omega) (by decide)) (by decide) (by decide)) (by decide) (by decide)) dX6_parts_85 ?_
          refine wr_call (va_runV (As := [.int other, .int (nI k), .int (nI j), .int ((mS x) (130 + (nI k)).toNatClampNeg)]) (rest := [.int (r_tellsOf x law (nI k) (nI j) ((mS x) (130 + (nI k)).toNatClampNeg)), .int (r_partsIt x law other k cn j)]) hC (c_X6_tellsOf l G M x other (nI k) (nI j) ((mS x) (130 + (nI k)).toNatClampNeg) hI hO hMW hN (ib.weak (isLaw_ib hI h_2) (by decide) (by decide)) (ib.weak (ib_ltc hC0 (by omega) (by decide)) (by decide) (by decide)) (ib.weak (ib_ltc hC1 (by omega) (by decide)) (by decide) (by decide)) (isLaw_wf hI hMW h_2)) (cwV 4 hts gX6_parts_X6_tellsOf rfl rfl rfl kd_X6_tellsOf ⟨Nat.le_of_ble_eq_true rfl, Nat.le_of_ble_eq_true rfl⟩) (ro_preV hK f_s.1 rfl f_s) rfl rfl hl.1 rfl (lv_room (Nat.le_of_ble_eq_true rfl)) dX6_parts_86 ⟨Nat.zero_le _, Nat.zero_le _⟩) hS (fun q h => h) (fun H locs f_n hq hS => ?_)
          have f_s := f_n
          refine join_wr (nL := 6) 97 [(0, .ref (M 0)), (1, .int law), (2, .int other), (3, .int (r_partsIt x law other k cn j)), (4, .int (nI k)), (5, .int (nI j))] [.int (b2i (if (r_tellsOf x law (nI k) (nI j) ((mS x) (130 + (nI k)).toNatClampNeg)) = (r_tellsOf x other (nI k) (nI j) ((mS x) (130 + (nI k)).toNatClampNeg)) then false else true)), .int (r_partsIt x law other k cn j)] (fun H locs => (MAt G M x H) ∧ wS (m3 M) s.heap H locs ∧ True) (fun H locs hI ls hl => ?_) (fun J_5 => ?_)
          · obtain ⟨f_s, hS, hZ⟩ := hI
            refine lv_iadd hx hb dX6_parts_97 ?_
            refine lv_istore_n (lv' := [(3, .int ((r_partsIt x law other k cn j) + (b2i (if (r_tellsOf x law (nI k) (nI j) ((mS x) (130 + (nI k)).toNatClampNeg)) = (r_tellsOf x other (nI k) (nI j) ((mS x) (130 + (nI k)).toNatClampNeg)) then false else true)))), (0, .ref (M 0)), (1, .int law), (2, .int other), (4, .int (nI k)), (5, .int (nI j))]) hx hb dX6_parts_98 rfl hl (by decide) rfl (fun ls hl => ?_)
            refine lv_iinc (v := (nI j) + 1) (lv' := [(5, .int ((nI j) + 1)), (3, .int ((r_partsIt x law other k cn j) + (b2i (if (r_tellsOf x law (nI k) (nI j) ((mS x) (130 + (nI k)).toNatClampNeg)) = (r_tellsOf x other (nI k) (nI j) ((mS x) (130 + (nI k)).toNatClampNeg)) then false else true)))), (0, .ref (M 0)), (1, .int law), (2, .int other), (4, .int (nI k))]) hx hb dX6_parts_99 hl (k := 5) rfl rfl (by decide) rfl (fun ls hl => ?_)
            refine lv_goto (tgt := 37) hx hb dX6_parts_102 (by decide) ?_
            have hE : (r_partsIt x law other k cn (j + 1)) = (r_partsIt x law other k cn j) + (b2i (if (r_tellsOf x law (nI k) (nI j) ((mS x) (130 + (nI k)).toNatClampNeg)) = (r_tellsOf x other (nI k) (nI j) ((mS x) (130 + (nI k)).toNatClampNeg)) then false else true)) := (by show r_partsIt_st x law other k j (r_partsIt x law other k cn j) = _; (try unfold r_partsIt_st); first | done | rfl)
            refine ih_j (j + 1) _ _ ⟨(show j + 1 ≤ ((mS x) (1 : Int32).toNatClampNeg).toNatClampNeg by omega), f_s, hS, hZ⟩ (show (((mS x) (1 : Int32).toNatClampNeg).toNatClampNeg) - (j + 1) < (((mS x) (1 : Int32).toNatClampNeg).toNatClampNeg) - j by omega) ls ?_
            show lv_has ls 6 [(0, .ref (M 0)), (1, .int law), (2, .int other), (3, .int (r_partsIt x law other k cn (j + 1))), (4, .int (nI k)), (5, .int (nI (j + 1)))]
            rw [nI_succ, hE]
            exact lv_sub hl [2, 3, 4, 1, 5, 0] rfl
          · refine lv_icmp_eq (tgt := 96) hx hb dX6_parts_89 (by decide) (fun h_6 => ?_) (fun h_6 => ?_)
            · refine lv_iconst (v := 0) hx hb dX6_parts_96 (by decide) ?_
              have hJ := J_5; (repeat rw [if_pos h_6] at hJ)
              first | exact hJ _ _ ⟨f_s, hS, hZ⟩ ls (lv_sub hl [0, 1, 2, 3, 4, 5] rfl) | ((repeat rw [if_pos h_6] at hl); (repeat rw [if_pos h_6]); exact hJ _ _ ⟨f_s, hS, hZ⟩ ls (lv_sub hl [0, 1, 2, 3, 4, 5] rfl))
            · refine lv_iconst (v := 1) hx hb dX6_parts_92 (by decide) ?_
              refine lv_goto (tgt := 97) hx hb dX6_parts_93 (by decide) ?_
              have hJ := J_5; (repeat rw [if_neg h_6] at hJ)
              first | exact hJ _ _ ⟨f_s, hS, hZ⟩ ls (lv_sub hl [0, 1, 2, 3, 4, 5] rfl) | ((repeat rw [if_neg h_6] at hl); (repeat rw [if_neg h_6]); exact hJ _ _ ⟨f_s, hS, hZ⟩ ls (lv_sub hl [0, 1, 2, 3, 4, 5] rfl))
    · refine lv_iconst (v := (-1)) hx hb dX6_parts_16 (by decide) ?_
      have hE9 : r_parts x law other = (-1) := (by (try unfold r_parts); (repeat rw [if_pos h_1]); (repeat rw [if_neg h_2]); first | done | rfl)
      exact wr_iret hx hb hr hlocks dX6_parts_17 hS (by first | exact f_s | (rw [hE9]; exact f_s)) (by rw [hE9]; first | done | rfl)
theorem i_X6_isUnchanged_X6 : ∀ w ∈ wsX60, w ∈ wsX6_isUnchanged := fun _ h => List.mem_cons_of_mem _ (List.mem_append_right _ h)
theorem k_X6_isUnchanged_fieldLink_9 : Cond.fieldLink RX6 9 "SameWaterModel" "s" "[I" ∈ wsX6_isUnchanged := by decide +kernel
def r_isUnchanged (x : MT) (tt : Int32) : Bool := (if (mS x) (266 + ((mS x) (322 + tt).toNatClampNeg)).toNatClampNeg = 0 then true else false)
set_option maxHeartbeats 4000000 in
set_option maxRecDepth 100000 in
theorem c_X6_isUnchanged (l : Launch) (G : GG) (M : Nat → Nat) (x : MT) (tt : Int32)  (hI : mI (mS x)) (hO : mO (mS x)) (iT : ib 0 39 tt) : Met l yX6_isUnchanged wsX6_isUnchanged { frames := 0, cells := 0, slots := 0, locals := 0 } (roP G [.ref (M 0), .int tt] (fun H => MAt G M x H)) (roQ (some (.int (b2i (r_isUnchanged x tt))))) 0 0 nF := by
  refine Met.ofW (cc := cX6_isUnchanged) (maxL := 2) (ret := (some .boolean)) (by decide) rfl ?_
  intro p e s m args below meth c s₁ Bd hml hv
  obtain ⟨rfl, hK, hB⟩ := hv
  have hx := Bd.exec
  have hb := Bd.bytes
  have hr := Bd.returns
  have hts := atoms_spec (ws := wsX6_isUnchanged) Bd.pre
  have hown : s.vm.findClass RX6 = some m.cls := findClass_of_methodNamed Bd.named
  have hlocks := Bd.notSynchronized
  have hC : CallFix p m c cX6_isUnchanged 2 s _ wsX6_isUnchanged RX6 := ⟨hx, hb, hml, hown, hts⟩
  have hl := lv_entry ([.ref (M 0), .int tt]) (n := 2) (Nat.le_of_ble_eq_true rfl)
  rw [lg_entry_eq]
  generalize (lg_sl ([.ref (M 0), .int tt]) ++ List.replicate (2 - (lg_sl ([.ref (M 0), .int tt])).length) Slot.unset).toArray = ls at hl ⊢
  have hl : lv_has ls 2 [(0, .ref (M 0)), (1, .int tt)] := hl
  refine lv_aload_n hx hb dX6_isUnchanged_0 rfl (lv_at hl 0 rfl) ?_
  refine r_get (C := RX6) (T := TX6) (N := 18) hx hb hts i_X6_isUnchanged_X6 hown hK hB.1 rfl 1 (by decide) k_X6_isUnchanged_fieldLink_9 rfl rfl dX6_isUnchanged_1 ?_
  refine lv_sipush (v := 266) hx hb dX6_isUnchanged_4 (by decide +kernel) ?_
  refine lv_aload_n hx hb dX6_isUnchanged_7 rfl (lv_at hl 0 rfl) ?_
  refine r_get (C := RX6) (T := TX6) (N := 18) hx hb hts i_X6_isUnchanged_X6 hown hK hB.1 rfl 1 (by decide) k_X6_isUnchanged_fieldLink_9 rfl rfl dX6_isUnchanged_8 ?_
  refine lv_sipush (v := 322) hx hb dX6_isUnchanged_11 (by decide +kernel) ?_
  refine lv_iload_n hx hb dX6_isUnchanged_14 rfl (lv_at hl 1 rfl) ?_
  refine lv_iadd hx hb dX6_isUnchanged_15 ?_
  refine r_iald hx hb hK hB.2.1 (vp_ib (lo := 322) (hi := 361) (ib_add (ib_nI (n := 322) (by decide)) iT (by decide) (by decide)) (by decide) (by decide)) dX6_isUnchanged_16 ?_
  refine lv_iadd hx hb dX6_isUnchanged_17 ?_
  refine r_iald hx hb hK hB.2.1 (vp_ib (lo := 266) (hi := 281) (ib_add (ib_nI (n := 266) (by decide)) (mI.at (lo := 322) (hi := 361) (x := 0) (y := 15) hI (ib_add (ib_nI (n := 322) (by decide)) iT (by decide) (by decide)) (by decide) (by decide) (by decide)) (by decide) (by decide)) (by decide) (by decide)) dX6_isUnchanged_18 ?_
  refine join_at (nL := 2) 27 [(0, .ref (M 0)), (1, .int tt)] [.int (b2i (if (mS x) (266 + ((mS x) (322 + tt).toNatClampNeg)).toNatClampNeg = 0 then true else false))] (fun ls hl => ?_) (fun J_1 => ?_)
  · exact ro_zret hx hb hr hlocks dX6_isUnchanged_27 rfl
  · refine lv_if_ne (tgt := 26) hx hb dX6_isUnchanged_19 (by decide) (fun h_2 => ?_) (fun h_2 => ?_)
    · refine lv_iconst (v := 0) hx hb dX6_isUnchanged_26 (by decide) ?_
      have hJ := J_1; (repeat rw [if_neg h_2] at hJ)
      first | exact hJ ls (lv_sub hl [0, 1] rfl) | ((repeat rw [if_neg h_2] at hl); (repeat rw [if_neg h_2]); exact hJ ls (lv_sub hl [0, 1] rfl))
    · refine lv_iconst (v := 1) hx hb dX6_isUnchanged_22 (by decide) ?_
      refine lv_goto (tgt := 27) hx hb dX6_isUnchanged_23 (by decide) ?_
      have hJ := J_1; (repeat rw [if_pos h_2] at hJ)
      first | exact hJ ls (lv_sub hl [0, 1] rfl) | ((repeat rw [if_pos h_2] at hl); (repeat rw [if_pos h_2]); exact hJ ls (lv_sub hl [0, 1] rfl))
theorem i_X6_fooled_X6 : ∀ w ∈ wsX60, w ∈ wsX6_fooled := fun _ h => List.mem_cons_of_mem _ (List.mem_append_right _ h)
theorem k_X6_fooled_fieldLink_9 : Cond.fieldLink RX6 9 "SameWaterModel" "s" "[I" ∈ wsX6_fooled := by decide +kernel
theorem kd_X6_isUnchanged : yX6_isUnchanged.cls = RX6 ∧ yX6_isUnchanged.cls ≠ "java/lang/invoke/MethodHandle" ∧ yX6_isUnchanged.cls ≠ "java/lang/invoke/VarHandle" ∧ (parseMethodDescriptor yX6_isUnchanged.desc).map (fun d => d.parameters.length) = some 1 := by decide +kernel
def r_fooledIt_st (x : MT) (k : Nat) (set9 : Int32) : Int32 := set9 ||| (if (r_isUnchanged x (nI k)) = true then 0 else if ((mS x) (362 + (nI k)).toNatClampNeg) = 1 then (1 : Int32) <<< (((mS x) (282 + (nI k)).toNatClampNeg) &&& 31) else 0)
def r_fooledIt (x : MT) (set90 : Int32) : Nat → Int32
  | 0 => set90
  | k + 1 => r_fooledIt_st x k (r_fooledIt x set90 k)
def r_fooled (x : MT)  : Int32 := (r_fooledIt x 0 (((mS x) (2 : Int32).toNatClampNeg).toNatClampNeg))
set_option maxHeartbeats 4000000 in
set_option maxRecDepth 100000 in
theorem c_X6_fooled (l : Launch) (G : GG) (M : Nat → Nat) (x : MT)   (hI : mI (mS x)) (hO : mO (mS x)) : Met l yX6_fooled wsX6_fooled { frames := 1, cells := 0, slots := 0, locals := 21 } (roP G [.ref (M 0)] (fun H => MAt G M x H)) (roQ (some (.int (r_fooled x )))) 0 0 nF := by
  refine Met.ofW (cc := cX6_fooled) (maxL := 3) (ret := (some .int)) (by decide) rfl ?_
  intro p e s m args below meth c s₁ Bd hml hv
  obtain ⟨rfl, hK, hB⟩ := hv
  have hx := Bd.exec
  have hb := Bd.bytes
  have hr := Bd.returns
  have hts := atoms_spec (ws := wsX6_fooled) Bd.pre
  have hown : s.vm.findClass RX6 = some m.cls := findClass_of_methodNamed Bd.named
  have hlocks := Bd.notSynchronized
  have hC : CallFix p m c cX6_fooled 3 s _ wsX6_fooled RX6 := ⟨hx, hb, hml, hown, hts⟩
  have hl := lv_entry ([.ref (M 0)]) (n := 3) (Nat.le_of_ble_eq_true rfl)
  rw [lg_entry_eq]
  generalize (lg_sl ([.ref (M 0)]) ++ List.replicate (3 - (lg_sl ([.ref (M 0)])).length) Slot.unset).toArray = ls at hl ⊢
  have hl : lv_has ls 3 [(0, .ref (M 0))] := hl
  have hC2 : ib 0 40 ((mS x) (2 : Int32).toNatClampNeg) := hI 2 (2, 2, 0, 40) (by decide) (Nat.le_refl _) (Nat.le_refl _)
  have hD2 : ((mS x) (2 : Int32).toNatClampNeg).toNatClampNeg ≤ 40 := by have := (hC2.clamp (by decide)).2; omega
  refine lv_iconst (v := 0) hx hb dX6_fooled_0 (by decide) ?_
  refine lv_istore_n (lv' := [(1, .int 0), (0, .ref (M 0))]) hx hb dX6_fooled_1 rfl hl (by decide) rfl (fun ls hl => ?_)
  refine lv_iconst (v := 0) hx hb dX6_fooled_2 (by decide) ?_
  refine lv_istore_n (lv' := [(2, .int 0), (1, .int 0), (0, .ref (M 0))]) hx hb dX6_fooled_3 rfl hl (by decide) rfl (fun ls hl => ?_)
  refine loop_at (nL := 3) (fun k : Nat => [(0, .ref (M 0)), (1, .int (r_fooledIt x 0 k)), (2, .int (nI k))]) (fun k => k ≤ ((mS x) (2 : Int32).toNatClampNeg).toNatClampNeg) (fun k => ((mS x) (2 : Int32).toNatClampNeg).toNatClampNeg - k) 0 (Nat.zero_le _) (lv_sub hl [2, 1, 0] rfl) (fun k hk_k ih_k ls hl => ?_)
  have hl : lv_has ls 3 [(0, .ref (M 0)), (1, .int (r_fooledIt x 0 k)), (2, .int (nI k))] := hl
  refine lv_iload_n hx hb dX6_fooled_4 rfl (lv_at hl 2 rfl) ?_
  refine lv_aload_n hx hb dX6_fooled_5 rfl (lv_at hl 0 rfl) ?_
  refine r_get (C := RX6) (T := TX6) (N := 18) hx hb hts i_X6_fooled_X6 hown hK hB.1 rfl 1 (by decide) k_X6_fooled_fieldLink_9 rfl rfl dX6_fooled_6 ?_
  refine lv_iconst (v := 2) hx hb dX6_fooled_9 (by decide) ?_
  refine r_iald hx hb hK hB.2.1 (vp_ib (lo := 2) (hi := 2) (ib_nI (n := 2) (by decide)) (by decide) (by decide)) dX6_fooled_10 ?_
  refine lv_icmp_ge (tgt := 61) hx hb dX6_fooled_11 (by decide) (fun h_1 => ?_) (fun h_1 => ?_)
  · have hN_k : k = ((mS x) (2 : Int32).toNatClampNeg).toNatClampNeg := ge_ex (N := ((mS x) (2 : Int32).toNatClampNeg).toNatClampNeg) (cnt_beq hC2 (by decide)) h_1 hk_k (by omega)
    subst hN_k
    refine lv_iload_n hx hb dX6_fooled_61 rfl (lv_at hl 1 rfl) ?_
    exact ro_iret hx hb hr hlocks dX6_fooled_62 rfl
  · have hlt_k : k < ((mS x) (2 : Int32).toNatClampNeg).toNatClampNeg := ge_in (N := ((mS x) (2 : Int32).toNatClampNeg).toNatClampNeg) (cnt_beq hC2 (by decide)) h_1 hk_k (by omega)
    refine lv_iload_n hx hb dX6_fooled_14 rfl (lv_at hl 1 rfl) ?_
    refine lv_aload_n hx hb dX6_fooled_15 rfl (lv_at hl 0 rfl) ?_
    refine lv_iload_n hx hb dX6_fooled_16 rfl (lv_at hl 2 rfl) ?_
    refine ro_call (va_runV (As := [.int (nI k)]) (rest := [.int (r_fooledIt x 0 k)]) hC (c_X6_isUnchanged l G M x (nI k) hI hO (ib.weak (ib_ltc hC2 (by omega) (by decide)) (by decide) (by decide))) (cwV 1 hts gX6_fooled_X6_isUnchanged rfl rfl rfl kd_X6_isUnchanged ⟨Nat.le_of_ble_eq_true rfl, Nat.le_of_ble_eq_true rfl⟩) (ro_preV hK hB.1 rfl hB) rfl rfl hl.1 rfl (lv_room (Nat.le_of_ble_eq_true rfl)) dX6_fooled_17 ⟨Nat.zero_le _, Nat.zero_le _⟩) ?_
    refine join_at (nL := 3) 53 [(0, .ref (M 0)), (1, .int (r_fooledIt x 0 k)), (2, .int (nI k))] [.int (if (r_isUnchanged x (nI k)) = true then 0 else if ((mS x) (362 + (nI k)).toNatClampNeg) = 1 then (1 : Int32) <<< (((mS x) (282 + (nI k)).toNatClampNeg) &&& 31) else 0), .int (r_fooledIt x 0 k)] (fun ls hl => ?_) (fun J_2 => ?_)
    · refine lv_ior hx hb dX6_fooled_53 ?_
      refine lv_istore_n (lv' := [(1, .int ((r_fooledIt x 0 k) ||| (if (r_isUnchanged x (nI k)) = true then 0 else if ((mS x) (362 + (nI k)).toNatClampNeg) = 1 then (1 : Int32) <<< (((mS x) (282 + (nI k)).toNatClampNeg) &&& 31) else 0))), (0, .ref (M 0)), (2, .int (nI k))]) hx hb dX6_fooled_54 rfl hl (by decide) rfl (fun ls hl => ?_)
      refine lv_iinc (v := (nI k) + 1) (lv' := [(2, .int ((nI k) + 1)), (1, .int ((r_fooledIt x 0 k) ||| (if (r_isUnchanged x (nI k)) = true then 0 else if ((mS x) (362 + (nI k)).toNatClampNeg) = 1 then (1 : Int32) <<< (((mS x) (282 + (nI k)).toNatClampNeg) &&& 31) else 0))), (0, .ref (M 0))]) hx hb dX6_fooled_55 hl (k := 2) rfl rfl (by decide) rfl (fun ls hl => ?_)
      refine lv_goto (tgt := 4) hx hb dX6_fooled_58 (by decide) ?_
      have hE : (r_fooledIt x 0 (k + 1)) = (r_fooledIt x 0 k) ||| (if (r_isUnchanged x (nI k)) = true then 0 else if ((mS x) (362 + (nI k)).toNatClampNeg) = 1 then (1 : Int32) <<< (((mS x) (282 + (nI k)).toNatClampNeg) &&& 31) else 0) := (by show r_fooledIt_st x k (r_fooledIt x 0 k) = _; (try unfold r_fooledIt_st); first | done | rfl)
      refine ih_k (k + 1) (show k + 1 ≤ ((mS x) (2 : Int32).toNatClampNeg).toNatClampNeg by omega) (by omega) ls ?_
      show lv_has ls 3 [(0, .ref (M 0)), (1, .int (r_fooledIt x 0 (k + 1))), (2, .int (nI (k + 1)))]
      rw [nI_succ, hE]
      exact lv_sub hl [2, 1, 0] rfl
    · refine bz_ne (tgt := 52) hx hb dX6_fooled_20 (by decide) (fun h_3 => ?_) (fun h_3 => ?_)
      · refine lv_iconst (v := 0) hx hb dX6_fooled_52 (by decide) ?_
        have hJ := J_2; (repeat rw [if_pos h_3] at hJ)
        first | exact hJ ls (lv_sub hl [0, 1, 2] rfl) | ((repeat rw [if_pos h_3] at hl); (repeat rw [if_pos h_3]); exact hJ ls (lv_sub hl [0, 1, 2] rfl))
      · refine lv_aload_n hx hb dX6_fooled_23 rfl (lv_at hl 0 rfl) ?_
        refine r_get (C := RX6) (T := TX6) (N := 18) hx hb hts i_X6_fooled_X6 hown hK hB.1 rfl 1 (by decide) k_X6_fooled_fieldLink_9 rfl rfl dX6_fooled_24 ?_
        refine lv_sipush (v := 362) hx hb dX6_fooled_27 (by decide +kernel) ?_
        refine lv_iload_n hx hb dX6_fooled_30 rfl (lv_at hl 2 rfl) ?_
        refine lv_iadd hx hb dX6_fooled_31 ?_
        refine r_iald hx hb hK hB.2.1 (vp_ib (lo := 362) (hi := 401) (ib_add (ib_nI (n := 362) (by decide)) (ib_ltc hC2 (by omega) (by decide)) (by decide) (by decide)) (by decide) (by decide)) dX6_fooled_32 ?_
        refine lv_iconst (v := 1) hx hb dX6_fooled_33 (by decide) ?_
        refine lv_icmp_ne (tgt := 52) hx hb dX6_fooled_34 (by decide) (fun h_4 => ?_) (fun h_4 => ?_)
        · refine lv_iconst (v := 0) hx hb dX6_fooled_52 (by decide) ?_
          have hJ := J_2; (repeat rw [if_neg h_3] at hJ); (repeat rw [if_neg h_4] at hJ)
          first | exact hJ ls (lv_sub hl [0, 1, 2] rfl) | ((repeat rw [if_neg h_3] at hl); (repeat rw [if_neg h_4] at hl); (repeat rw [if_neg h_3]); (repeat rw [if_neg h_4]); exact hJ ls (lv_sub hl [0, 1, 2] rfl))
        · refine lv_iconst (v := 1) hx hb dX6_fooled_37 (by decide) ?_
          refine lv_aload_n hx hb dX6_fooled_38 rfl (lv_at hl 0 rfl) ?_
          refine r_get (C := RX6) (T := TX6) (N := 18) hx hb hts i_X6_fooled_X6 hown hK hB.1 rfl 1 (by decide) k_X6_fooled_fieldLink_9 rfl rfl dX6_fooled_39 ?_
          refine lv_sipush (v := 282) hx hb dX6_fooled_42 (by decide +kernel) ?_
          refine lv_iload_n hx hb dX6_fooled_45 rfl (lv_at hl 2 rfl) ?_
          refine lv_iadd hx hb dX6_fooled_46 ?_
          refine r_iald hx hb hK hB.2.1 (vp_ib (lo := 282) (hi := 321) (ib_add (ib_nI (n := 282) (by decide)) (ib_ltc hC2 (by omega) (by decide)) (by decide) (by decide)) (by decide) (by decide)) dX6_fooled_47 ?_
          refine lv_ishl hx hb dX6_fooled_48 ?_
          refine lv_goto (tgt := 53) hx hb dX6_fooled_49 (by decide) ?_
          have hJ := J_2; (repeat rw [if_neg h_3] at hJ); (repeat rw [if_pos h_4] at hJ)
          first | exact hJ ls (lv_sub hl [0, 1, 2] rfl) | ((repeat rw [if_neg h_3] at hl); (repeat rw [if_pos h_4] at hl); (repeat rw [if_neg h_3]); (repeat rw [if_pos h_4]); exact hJ ls (lv_sub hl [0, 1, 2] rfl))
theorem i_X6_step_X6 : ∀ w ∈ wsX60, w ∈ wsX6_step := fun _ h => List.mem_cons_of_mem _ (List.mem_append_right _ h)
theorem k_X6_step_fieldLink_9 : Cond.fieldLink RX6 9 "SameWaterModel" "s" "[I" ∈ wsX6_step := by decide +kernel
def r_stepIt_st (x : MT) (cc ss : Int32) (k : Nat) (sh : Int32) : Int32 := if ((mS x) (282 + (nI k)).toNatClampNeg) = cc then if ((mS x) (170 + ((mS x) (322 + (nI k)).toNatClampNeg)).toNatClampNeg) = ss then if (r_isUnchanged x (nI k)) = true then if ((mS x) (362 + (nI k)).toNatClampNeg) = 1 then if sh = (-1) then 1 else sh else 0 else sh else sh else sh
def r_stepIt (x : MT) (cc ss : Int32) (sh0 : Int32) : Nat → Int32
  | 0 => sh0
  | k + 1 => r_stepIt_st x cc ss k (r_stepIt x cc ss sh0 k)
def r_step (x : MT) (cc : Int32) (ss : Int32) : Int32 := (r_stepIt x cc ss (-1) (((mS x) (2 : Int32).toNatClampNeg).toNatClampNeg))
set_option maxHeartbeats 4000000 in
set_option maxRecDepth 100000 in
theorem c_X6_step (l : Launch) (G : GG) (M : Nat → Nat) (x : MT) (cc : Int32) (ss : Int32)  (hI : mI (mS x)) (hO : mO (mS x)) : Met l yX6_step wsX6_step { frames := 1, cells := 0, slots := 0, locals := 21 } (roP G [.ref (M 0), .int cc, .int ss] (fun H => MAt G M x H)) (roQ (some (.int (r_step x cc ss)))) 0 0 nF := by
  refine Met.ofW (cc := cX6_step) (maxL := 5) (ret := (some .int)) (by decide) rfl ?_
  intro p e s m args below meth c s₁ Bd hml hv
  obtain ⟨rfl, hK, hB⟩ := hv
  have hx := Bd.exec
  have hb := Bd.bytes
  have hr := Bd.returns
  have hts := atoms_spec (ws := wsX6_step) Bd.pre
  have hown : s.vm.findClass RX6 = some m.cls := findClass_of_methodNamed Bd.named
  have hlocks := Bd.notSynchronized
  have hC : CallFix p m c cX6_step 5 s _ wsX6_step RX6 := ⟨hx, hb, hml, hown, hts⟩
  have hl := lv_entry ([.ref (M 0), .int cc, .int ss]) (n := 5) (Nat.le_of_ble_eq_true rfl)
  rw [lg_entry_eq]
  generalize (lg_sl ([.ref (M 0), .int cc, .int ss]) ++ List.replicate (5 - (lg_sl ([.ref (M 0), .int cc, .int ss])).length) Slot.unset).toArray = ls at hl ⊢
  have hl : lv_has ls 5 [(0, .ref (M 0)), (1, .int cc), (2, .int ss)] := hl
  have hC2 : ib 0 40 ((mS x) (2 : Int32).toNatClampNeg) := hI 2 (2, 2, 0, 40) (by decide) (Nat.le_refl _) (Nat.le_refl _)
  have hD2 : ((mS x) (2 : Int32).toNatClampNeg).toNatClampNeg ≤ 40 := by have := (hC2.clamp (by decide)).2; omega
  refine lv_iconst (v := (-1)) hx hb dX6_step_0 (by decide) ?_
  refine lv_istore_n (lv' := [(3, .int (-1)), (0, .ref (M 0)), (1, .int cc), (2, .int ss)]) hx hb dX6_step_1 rfl hl (by decide) rfl (fun ls hl => ?_)
  refine lv_iconst (v := 0) hx hb dX6_step_2 (by decide) ?_
  refine lv_istore (lv' := [(4, .int 0), (3, .int (-1)), (0, .ref (M 0)), (1, .int cc), (2, .int ss)]) hx hb dX6_step_3 hl (by decide) rfl (fun ls hl => ?_)
  refine loop_at (nL := 5) (fun k : Nat => [(0, .ref (M 0)), (1, .int cc), (2, .int ss), (3, .int (r_stepIt x cc ss (-1) k)), (4, .int (nI k))]) (fun k => k ≤ ((mS x) (2 : Int32).toNatClampNeg).toNatClampNeg) (fun k => ((mS x) (2 : Int32).toNatClampNeg).toNatClampNeg - k) 0 (Nat.zero_le _) (lv_sub hl [2, 3, 4, 1, 0] rfl) (fun k hk_k ih_k ls hl => ?_)
  have hl : lv_has ls 5 [(0, .ref (M 0)), (1, .int cc), (2, .int ss), (3, .int (r_stepIt x cc ss (-1) k)), (4, .int (nI k))] := hl
  refine lv_iload hx hb dX6_step_5 (lv_at hl 4 rfl) ?_
  refine lv_aload_n hx hb dX6_step_7 rfl (lv_at hl 0 rfl) ?_
  refine r_get (C := RX6) (T := TX6) (N := 18) hx hb hts i_X6_step_X6 hown hK hB.1 rfl 1 (by decide) k_X6_step_fieldLink_9 rfl rfl dX6_step_8 ?_
  refine lv_iconst (v := 2) hx hb dX6_step_11 (by decide) ?_
  refine r_iald hx hb hK hB.2.1 (vp_ib (lo := 2) (hi := 2) (ib_nI (n := 2) (by decide)) (by decide) (by decide)) dX6_step_12 ?_
  refine lv_icmp_ge (tgt := 100) hx hb dX6_step_13 (by decide) (fun h_1 => ?_) (fun h_1 => ?_)
  · have hN_k : k = ((mS x) (2 : Int32).toNatClampNeg).toNatClampNeg := ge_ex (N := ((mS x) (2 : Int32).toNatClampNeg).toNatClampNeg) (cnt_beq hC2 (by decide)) h_1 hk_k (by omega)
    subst hN_k
    refine lv_iload_n hx hb dX6_step_100 rfl (lv_at hl 3 rfl) ?_
    exact ro_iret hx hb hr hlocks dX6_step_101 rfl
  · have hlt_k : k < ((mS x) (2 : Int32).toNatClampNeg).toNatClampNeg := ge_in (N := ((mS x) (2 : Int32).toNatClampNeg).toNatClampNeg) (cnt_beq hC2 (by decide)) h_1 hk_k (by omega)
    refine lv_aload_n hx hb dX6_step_16 rfl (lv_at hl 0 rfl) ?_
    refine r_get (C := RX6) (T := TX6) (N := 18) hx hb hts i_X6_step_X6 hown hK hB.1 rfl 1 (by decide) k_X6_step_fieldLink_9 rfl rfl dX6_step_17 ?_
    refine lv_sipush (v := 282) hx hb dX6_step_20 (by decide +kernel) ?_
    refine lv_iload hx hb dX6_step_23 (lv_at hl 4 rfl) ?_
    refine lv_iadd hx hb dX6_step_25 ?_
    refine r_iald hx hb hK hB.2.1 (vp_ib (lo := 282) (hi := 321) (ib_add (ib_nI (n := 282) (by decide)) (ib_ltc hC2 (by omega) (by decide)) (by decide) (by decide)) (by decide) (by decide)) dX6_step_26 ?_
    refine lv_iload_n hx hb dX6_step_27 rfl (lv_at hl 1 rfl) ?_
    refine join_at (nL := 5) 94 [(3, .int (if ((mS x) (282 + (nI k)).toNatClampNeg) = cc then if ((mS x) (170 + ((mS x) (322 + (nI k)).toNatClampNeg)).toNatClampNeg) = ss then if (r_isUnchanged x (nI k)) = true then if ((mS x) (362 + (nI k)).toNatClampNeg) = 1 then if (r_stepIt x cc ss (-1) k) = (-1) then 1 else (r_stepIt x cc ss (-1) k) else 0 else (r_stepIt x cc ss (-1) k) else (r_stepIt x cc ss (-1) k) else (r_stepIt x cc ss (-1) k))), (0, .ref (M 0)), (1, .int cc), (2, .int ss), (4, .int (nI k))] [] (fun ls hl => ?_) (fun J_2 => ?_)
    · refine lv_iinc (v := (nI k) + 1) (lv' := [(4, .int ((nI k) + 1)), (3, .int (if ((mS x) (282 + (nI k)).toNatClampNeg) = cc then if ((mS x) (170 + ((mS x) (322 + (nI k)).toNatClampNeg)).toNatClampNeg) = ss then if (r_isUnchanged x (nI k)) = true then if ((mS x) (362 + (nI k)).toNatClampNeg) = 1 then if (r_stepIt x cc ss (-1) k) = (-1) then 1 else (r_stepIt x cc ss (-1) k) else 0 else (r_stepIt x cc ss (-1) k) else (r_stepIt x cc ss (-1) k) else (r_stepIt x cc ss (-1) k))), (0, .ref (M 0)), (1, .int cc), (2, .int ss)]) hx hb dX6_step_94 hl (k := 4) rfl rfl (by decide) rfl (fun ls hl => ?_)
      refine lv_goto (tgt := 5) hx hb dX6_step_97 (by decide) ?_
      have hE : (r_stepIt x cc ss (-1) (k + 1)) = if ((mS x) (282 + (nI k)).toNatClampNeg) = cc then if ((mS x) (170 + ((mS x) (322 + (nI k)).toNatClampNeg)).toNatClampNeg) = ss then if (r_isUnchanged x (nI k)) = true then if ((mS x) (362 + (nI k)).toNatClampNeg) = 1 then if (r_stepIt x cc ss (-1) k) = (-1) then 1 else (r_stepIt x cc ss (-1) k) else 0 else (r_stepIt x cc ss (-1) k) else (r_stepIt x cc ss (-1) k) else (r_stepIt x cc ss (-1) k) := (by show r_stepIt_st x cc ss k (r_stepIt x cc ss (-1) k) = _; (try unfold r_stepIt_st); first | done | rfl)
      refine ih_k (k + 1) (show k + 1 ≤ ((mS x) (2 : Int32).toNatClampNeg).toNatClampNeg by omega) (by omega) ls ?_
      show lv_has ls 5 [(0, .ref (M 0)), (1, .int cc), (2, .int ss), (3, .int (r_stepIt x cc ss (-1) (k + 1))), (4, .int (nI (k + 1)))]
      rw [nI_succ, hE]
      exact lv_sub hl [2, 3, 4, 1, 0] rfl
    · refine lv_icmp_ne (tgt := 94) hx hb dX6_step_28 (by decide) (fun h_3 => ?_) (fun h_3 => ?_)
      · have hJ := J_2; (repeat rw [if_neg h_3] at hJ)
        first | exact hJ ls (lv_sub hl [3, 0, 1, 2, 4] rfl) | ((repeat rw [if_neg h_3] at hl); (repeat rw [if_neg h_3]); exact hJ ls (lv_sub hl [3, 0, 1, 2, 4] rfl))
      · refine lv_aload_n hx hb dX6_step_31 rfl (lv_at hl 0 rfl) ?_
        refine r_get (C := RX6) (T := TX6) (N := 18) hx hb hts i_X6_step_X6 hown hK hB.1 rfl 1 (by decide) k_X6_step_fieldLink_9 rfl rfl dX6_step_32 ?_
        refine lv_sipush (v := 170) hx hb dX6_step_35 (by decide +kernel) ?_
        refine lv_aload_n hx hb dX6_step_38 rfl (lv_at hl 0 rfl) ?_
        refine r_get (C := RX6) (T := TX6) (N := 18) hx hb hts i_X6_step_X6 hown hK hB.1 rfl 1 (by decide) k_X6_step_fieldLink_9 rfl rfl dX6_step_39 ?_
        refine lv_sipush (v := 322) hx hb dX6_step_42 (by decide +kernel) ?_
        refine lv_iload hx hb dX6_step_45 (lv_at hl 4 rfl) ?_
        refine lv_iadd hx hb dX6_step_47 ?_
        refine r_iald hx hb hK hB.2.1 (vp_ib (lo := 322) (hi := 361) (ib_add (ib_nI (n := 322) (by decide)) (ib_ltc hC2 (by omega) (by decide)) (by decide) (by decide)) (by decide) (by decide)) dX6_step_48 ?_
        refine lv_iadd hx hb dX6_step_49 ?_
        refine r_iald hx hb hK hB.2.1 (vp_ib (lo := 170) (hi := 185) (ib_add (ib_nI (n := 170) (by decide)) (mI.at (lo := 322) (hi := 361) (x := 0) (y := 15) hI (ib_add (ib_nI (n := 322) (by decide)) (ib_ltc hC2 (by omega) (by decide)) (by decide) (by decide)) (by decide) (by decide) (by decide)) (by decide) (by decide)) (by decide) (by decide)) dX6_step_50 ?_
        refine lv_iload_n hx hb dX6_step_51 rfl (lv_at hl 2 rfl) ?_
        refine lv_icmp_ne (tgt := 94) hx hb dX6_step_52 (by decide) (fun h_4 => ?_) (fun h_4 => ?_)
        · have hJ := J_2; (repeat rw [if_pos h_3] at hJ); (repeat rw [if_neg h_4] at hJ)
          first | exact hJ ls (lv_sub hl [3, 0, 1, 2, 4] rfl) | ((repeat rw [if_pos h_3] at hl); (repeat rw [if_neg h_4] at hl); (repeat rw [if_pos h_3]); (repeat rw [if_neg h_4]); exact hJ ls (lv_sub hl [3, 0, 1, 2, 4] rfl))
        · refine lv_aload_n hx hb dX6_step_55 rfl (lv_at hl 0 rfl) ?_
          refine lv_iload hx hb dX6_step_56 (lv_at hl 4 rfl) ?_
          refine ro_call (va_runV (As := [.int (nI k)]) (rest := []) hC (c_X6_isUnchanged l G M x (nI k) hI hO (ib.weak (ib_ltc hC2 (by omega) (by decide)) (by decide) (by decide))) (cwV 1 hts gX6_step_X6_isUnchanged rfl rfl rfl kd_X6_isUnchanged ⟨Nat.le_of_ble_eq_true rfl, Nat.le_of_ble_eq_true rfl⟩) (ro_preV hK hB.1 rfl hB) rfl rfl hl.1 rfl (lv_room (Nat.le_of_ble_eq_true rfl)) dX6_step_58 ⟨Nat.zero_le _, Nat.zero_le _⟩) ?_
          refine bz_eq (tgt := 94) hx hb dX6_step_61 (by decide) (fun h_5 => ?_) (fun h_5 => ?_)
          · have hJ := J_2; (repeat rw [if_pos h_3] at hJ); (repeat rw [if_pos h_4] at hJ); (repeat rw [if_neg h_5] at hJ)
            first | exact hJ ls (lv_sub hl [3, 0, 1, 2, 4] rfl) | ((repeat rw [if_pos h_3] at hl); (repeat rw [if_pos h_4] at hl); (repeat rw [if_neg h_5] at hl); (repeat rw [if_pos h_3]); (repeat rw [if_pos h_4]); (repeat rw [if_neg h_5]); exact hJ ls (lv_sub hl [3, 0, 1, 2, 4] rfl))
          · refine lv_aload_n hx hb dX6_step_64 rfl (lv_at hl 0 rfl) ?_
            refine r_get (C := RX6) (T := TX6) (N := 18) hx hb hts i_X6_step_X6 hown hK hB.1 rfl 1 (by decide) k_X6_step_fieldLink_9 rfl rfl dX6_step_65 ?_
            refine lv_sipush (v := 362) hx hb dX6_step_68 (by decide +kernel) ?_
            refine lv_iload hx hb dX6_step_71 (lv_at hl 4 rfl) ?_
            refine lv_iadd hx hb dX6_step_73 ?_
            refine r_iald hx hb hK hB.2.1 (vp_ib (lo := 362) (hi := 401) (ib_add (ib_nI (n := 362) (by decide)) (ib_ltc hC2 (by omega) (by decide)) (by decide) (by decide)) (by decide) (by decide)) dX6_step_74 ?_
            refine lv_iconst (v := 1) hx hb dX6_step_75 (by decide) ?_
            refine join_at (nL := 5) 93 [(0, .ref (M 0)), (1, .int cc), (2, .int ss), (3, .int (r_stepIt x cc ss (-1) k)), (4, .int (nI k))] [.int (if ((mS x) (362 + (nI k)).toNatClampNeg) = 1 then if (r_stepIt x cc ss (-1) k) = (-1) then 1 else (r_stepIt x cc ss (-1) k) else 0)] (fun ls hl => ?_) (fun J_6 => ?_)
            · refine lv_istore_n (lv' := [(3, .int (if ((mS x) (362 + (nI k)).toNatClampNeg) = 1 then if (r_stepIt x cc ss (-1) k) = (-1) then 1 else (r_stepIt x cc ss (-1) k) else 0)), (0, .ref (M 0)), (1, .int cc), (2, .int ss), (4, .int (nI k))]) hx hb dX6_step_93 rfl hl (by decide) rfl (fun ls hl => ?_)
              have hJ := J_2; (repeat rw [if_pos h_3] at hJ); (repeat rw [if_pos h_4] at hJ); (repeat rw [if_pos h_5] at hJ)
              first | exact hJ ls (lv_sub hl [0, 1, 2, 3, 4] rfl) | ((repeat rw [if_pos h_3] at hl); (repeat rw [if_pos h_4] at hl); (repeat rw [if_pos h_5] at hl); (repeat rw [if_pos h_3]); (repeat rw [if_pos h_4]); (repeat rw [if_pos h_5]); exact hJ ls (lv_sub hl [0, 1, 2, 3, 4] rfl))
            · refine lv_icmp_eq (tgt := 83) hx hb dX6_step_76 (by decide) (fun h_7 => ?_) (fun h_7 => ?_)
              · refine lv_iload_n hx hb dX6_step_83 rfl (lv_at hl 3 rfl) ?_
                refine lv_iconst (v := (-1)) hx hb dX6_step_84 (by decide) ?_
                refine lv_icmp_ne (tgt := 92) hx hb dX6_step_85 (by decide) (fun h_8 => ?_) (fun h_8 => ?_)
                · refine lv_iload_n hx hb dX6_step_92 rfl (lv_at hl 3 rfl) ?_
                  have hJ := J_6; (repeat rw [if_pos h_7] at hJ); (repeat rw [if_neg h_8] at hJ)
                  first | exact hJ ls (lv_sub hl [0, 1, 2, 3, 4] rfl) | ((repeat rw [if_pos h_7] at hl); (repeat rw [if_neg h_8] at hl); (repeat rw [if_pos h_7]); (repeat rw [if_neg h_8]); exact hJ ls (lv_sub hl [0, 1, 2, 3, 4] rfl))
                · refine lv_iconst (v := 1) hx hb dX6_step_88 (by decide) ?_
                  refine lv_goto (tgt := 93) hx hb dX6_step_89 (by decide) ?_
                  have hJ := J_6; (repeat rw [if_pos h_7] at hJ); (repeat rw [if_pos h_8] at hJ)
                  first | exact hJ ls (lv_sub hl [0, 1, 2, 3, 4] rfl) | ((repeat rw [if_pos h_7] at hl); (repeat rw [if_pos h_8] at hl); (repeat rw [if_pos h_7]); (repeat rw [if_pos h_8]); exact hJ ls (lv_sub hl [0, 1, 2, 3, 4] rfl))
              · refine lv_iconst (v := 0) hx hb dX6_step_79 (by decide) ?_
                refine lv_goto (tgt := 93) hx hb dX6_step_80 (by decide) ?_
                have hJ := J_6; (repeat rw [if_neg h_7] at hJ)
                first | exact hJ ls (lv_sub hl [0, 1, 2, 3, 4] rfl) | ((repeat rw [if_neg h_7] at hl); (repeat rw [if_neg h_7]); exact hJ ls (lv_sub hl [0, 1, 2, 3, 4] rfl))
theorem i_X6_once_X6 : ∀ w ∈ wsX60, w ∈ wsX6_once := fun _ h => List.mem_cons_of_mem _ (List.mem_append_right _ h)
theorem k_X6_once_fieldLink_9 : Cond.fieldLink RX6 9 "SameWaterModel" "s" "[I" ∈ wsX6_once := by decide +kernel
theorem kd_X6_step : yX6_step.cls = RX6 ∧ yX6_step.cls ≠ "java/lang/invoke/MethodHandle" ∧ yX6_step.cls ≠ "java/lang/invoke/VarHandle" ∧ (parseMethodDescriptor yX6_step.desc).map (fun d => d.parameters.length) = some 2 := by decide +kernel
def r_onceJt_st (x : MT) (k : Nat) (j : Nat) (sh : Int32) (mi : Int32) : Int32 × Int32 := (sh + (b2i (if (r_step x (nI k) (nI j)) = 1 then true else false)), mi + (b2i (if (r_step x (nI k) (nI j)) = 0 then true else false)))
def r_onceJt (x : MT) (k : Nat) (sh0 : Int32) (mi0 : Int32) : Nat → Int32 × Int32
  | 0 => (sh0, mi0)
  | j + 1 => r_onceJt_st x k j ((r_onceJt x k sh0 mi0 j).1) ((r_onceJt x k sh0 mi0 j).2)
def r_onceIt_st (x : MT) (k : Nat) (set9 : Int32) : Int32 := set9 ||| (if (((r_onceJt x k 0 0 4).1) + ((r_onceJt x k 0 0 4).2)) ≤ 1 then 0 else if (r_onceJt x k 0 0 4).1 = 0 then (1 : Int32) <<< ((nI k) &&& 31) else if (r_onceJt x k 0 0 4).2 = 0 then (1 : Int32) <<< ((nI k) &&& 31) else 0)
def r_onceIt (x : MT) (set90 : Int32) : Nat → Int32
  | 0 => set90
  | k + 1 => r_onceIt_st x k (r_onceIt x set90 k)
def r_once (x : MT)  : Int32 := (r_onceIt x 0 (((mS x) (0 : Int32).toNatClampNeg).toNatClampNeg))
set_option maxHeartbeats 4000000 in
set_option maxRecDepth 100000 in
theorem c_X6_once (l : Launch) (G : GG) (M : Nat → Nat) (x : MT)   (hI : mI (mS x)) (hO : mO (mS x)) : Met l yX6_once wsX6_once { frames := 2, cells := 0, slots := 0, locals := 45 } (roP G [.ref (M 0)] (fun H => MAt G M x H)) (roQ (some (.int (r_once x )))) 0 0 nF := by
  refine Met.ofW (cc := cX6_once) (maxL := 7) (ret := (some .int)) (by decide) rfl ?_
  intro p e s m args below meth c s₁ Bd hml hv
  obtain ⟨rfl, hK, hB⟩ := hv
  have hx := Bd.exec
  have hb := Bd.bytes
  have hr := Bd.returns
  have hts := atoms_spec (ws := wsX6_once) Bd.pre
  have hown : s.vm.findClass RX6 = some m.cls := findClass_of_methodNamed Bd.named
  have hlocks := Bd.notSynchronized
  have hC : CallFix p m c cX6_once 7 s _ wsX6_once RX6 := ⟨hx, hb, hml, hown, hts⟩
  have hl := lv_entry ([.ref (M 0)]) (n := 7) (Nat.le_of_ble_eq_true rfl)
  rw [lg_entry_eq]
  generalize (lg_sl ([.ref (M 0)]) ++ List.replicate (7 - (lg_sl ([.ref (M 0)])).length) Slot.unset).toArray = ls at hl ⊢
  have hl : lv_has ls 7 [(0, .ref (M 0))] := hl
  have hC0 : ib 0 8 ((mS x) (0 : Int32).toNatClampNeg) := hI 0 (0, 0, 0, 8) (by decide) (Nat.le_refl _) (Nat.le_refl _)
  have hD0 : ((mS x) (0 : Int32).toNatClampNeg).toNatClampNeg ≤ 8 := by have := (hC0.clamp (by decide)).2; omega
  refine lv_iconst (v := 0) hx hb dX6_once_0 (by decide) ?_
  refine lv_istore_n (lv' := [(1, .int 0), (0, .ref (M 0))]) hx hb dX6_once_1 rfl hl (by decide) rfl (fun ls hl => ?_)
  refine lv_iconst (v := 0) hx hb dX6_once_2 (by decide) ?_
  refine lv_istore_n (lv' := [(2, .int 0), (1, .int 0), (0, .ref (M 0))]) hx hb dX6_once_3 rfl hl (by decide) rfl (fun ls hl => ?_)
  refine loop_at (nL := 7) (fun k : Nat => [(0, .ref (M 0)), (1, .int (r_onceIt x 0 k)), (2, .int (nI k))]) (fun k => k ≤ ((mS x) (0 : Int32).toNatClampNeg).toNatClampNeg) (fun k => ((mS x) (0 : Int32).toNatClampNeg).toNatClampNeg - k) 0 (Nat.zero_le _) (lv_sub hl [2, 1, 0] rfl) (fun k hk_k ih_k ls hl => ?_)
  have hl : lv_has ls 7 [(0, .ref (M 0)), (1, .int (r_onceIt x 0 k)), (2, .int (nI k))] := hl
  refine lv_iload_n hx hb dX6_once_4 rfl (lv_at hl 2 rfl) ?_
  refine lv_aload_n hx hb dX6_once_5 rfl (lv_at hl 0 rfl) ?_
  refine r_get (C := RX6) (T := TX6) (N := 18) hx hb hts i_X6_once_X6 hown hK hB.1 rfl 1 (by decide) k_X6_once_fieldLink_9 rfl rfl dX6_once_6 ?_
  refine lv_iconst (v := 0) hx hb dX6_once_9 (by decide) ?_
  refine r_iald hx hb hK hB.2.1 (vp_ib (lo := 0) (hi := 0) (ib_nI (n := 0) (by decide)) (by decide) (by decide)) dX6_once_10 ?_
  refine lv_icmp_ge (tgt := 105) hx hb dX6_once_11 (by decide) (fun h_1 => ?_) (fun h_1 => ?_)
  · have hN_k : k = ((mS x) (0 : Int32).toNatClampNeg).toNatClampNeg := ge_ex (N := ((mS x) (0 : Int32).toNatClampNeg).toNatClampNeg) (cnt_beq hC0 (by decide)) h_1 hk_k (by omega)
    subst hN_k
    refine lv_iload_n hx hb dX6_once_105 rfl (lv_at hl 1 rfl) ?_
    exact ro_iret hx hb hr hlocks dX6_once_106 rfl
  · have hlt_k : k < ((mS x) (0 : Int32).toNatClampNeg).toNatClampNeg := ge_in (N := ((mS x) (0 : Int32).toNatClampNeg).toNatClampNeg) (cnt_beq hC0 (by decide)) h_1 hk_k (by omega)
    refine lv_iconst (v := 0) hx hb dX6_once_14 (by decide) ?_
    refine lv_istore_n (lv' := [(3, .int 0), (0, .ref (M 0)), (1, .int (r_onceIt x 0 k)), (2, .int (nI k))]) hx hb dX6_once_15 rfl hl (by decide) rfl (fun ls hl => ?_)
    refine lv_iconst (v := 0) hx hb dX6_once_16 (by decide) ?_
    refine lv_istore (lv' := [(4, .int 0), (3, .int 0), (0, .ref (M 0)), (1, .int (r_onceIt x 0 k)), (2, .int (nI k))]) hx hb dX6_once_17 hl (by decide) rfl (fun ls hl => ?_)
    refine lv_iconst (v := 0) hx hb dX6_once_19 (by decide) ?_
    refine lv_istore (lv' := [(5, .int 0), (4, .int 0), (3, .int 0), (0, .ref (M 0)), (1, .int (r_onceIt x 0 k)), (2, .int (nI k))]) hx hb dX6_once_20 hl (by decide) rfl (fun ls hl => ?_)
    refine loop_at (nL := 7) (fun j : Nat => [(0, .ref (M 0)), (1, .int (r_onceIt x 0 k)), (2, .int (nI k)), (3, .int ((r_onceJt x k 0 0 j).1)), (4, .int ((r_onceJt x k 0 0 j).2)), (5, .int (nI j))]) (fun j => j ≤ 4) (fun j => 4 - j) 0 (Nat.zero_le _) (lv_sub hl [3, 4, 5, 2, 1, 0] rfl) (fun j hk_j ih_j ls hl => ?_)
    have hl : lv_has ls 7 [(0, .ref (M 0)), (1, .int (r_onceIt x 0 k)), (2, .int (nI k)), (3, .int ((r_onceJt x k 0 0 j).1)), (4, .int ((r_onceJt x k 0 0 j).2)), (5, .int (nI j))] := hl
    refine lv_iload hx hb dX6_once_22 (lv_at hl 5 rfl) ?_
    refine lv_iconst (v := 4) hx hb dX6_once_24 (by decide) ?_
    refine lv_icmp_ge (tgt := 72) hx hb dX6_once_25 (by decide) (fun h_2 => ?_) (fun h_2 => ?_)
    · have hN_j : j = 4 := ge_ex (N := 4) rfl h_2 hk_j (by omega)
      subst hN_j
      refine lv_iload_n hx hb dX6_once_72 rfl (lv_at hl 1 rfl) ?_
      refine lv_iload_n hx hb dX6_once_73 rfl (lv_at hl 3 rfl) ?_
      refine lv_iload hx hb dX6_once_74 (lv_at hl 4 rfl) ?_
      refine lv_iadd hx hb dX6_once_76 ?_
      refine lv_iconst (v := 1) hx hb dX6_once_77 (by decide) ?_
      refine join_at (nL := 7) 97 [(0, .ref (M 0)), (1, .int (r_onceIt x 0 k)), (2, .int (nI k)), (3, .int ((r_onceJt x k 0 0 4).1)), (4, .int ((r_onceJt x k 0 0 4).2)), (5, .int (nI 4))] [.int (if (((r_onceJt x k 0 0 4).1) + ((r_onceJt x k 0 0 4).2)) ≤ 1 then 0 else if (r_onceJt x k 0 0 4).1 = 0 then (1 : Int32) <<< ((nI k) &&& 31) else if (r_onceJt x k 0 0 4).2 = 0 then (1 : Int32) <<< ((nI k) &&& 31) else 0), .int (r_onceIt x 0 k)] (fun ls hl => ?_) (fun J_3 => ?_)
      · refine lv_ior hx hb dX6_once_97 ?_
        refine lv_istore_n (lv' := [(1, .int ((r_onceIt x 0 k) ||| (if (((r_onceJt x k 0 0 4).1) + ((r_onceJt x k 0 0 4).2)) ≤ 1 then 0 else if (r_onceJt x k 0 0 4).1 = 0 then (1 : Int32) <<< ((nI k) &&& 31) else if (r_onceJt x k 0 0 4).2 = 0 then (1 : Int32) <<< ((nI k) &&& 31) else 0))), (0, .ref (M 0)), (2, .int (nI k)), (3, .int ((r_onceJt x k 0 0 4).1)), (4, .int ((r_onceJt x k 0 0 4).2)), (5, .int (nI 4))]) hx hb dX6_once_98 rfl hl (by decide) rfl (fun ls hl => ?_)
        refine lv_iinc (v := (nI k) + 1) (lv' := [(2, .int ((nI k) + 1)), (1, .int ((r_onceIt x 0 k) ||| (if (((r_onceJt x k 0 0 4).1) + ((r_onceJt x k 0 0 4).2)) ≤ 1 then 0 else if (r_onceJt x k 0 0 4).1 = 0 then (1 : Int32) <<< ((nI k) &&& 31) else if (r_onceJt x k 0 0 4).2 = 0 then (1 : Int32) <<< ((nI k) &&& 31) else 0))), (0, .ref (M 0)), (3, .int ((r_onceJt x k 0 0 4).1)), (4, .int ((r_onceJt x k 0 0 4).2)), (5, .int (nI 4))]) hx hb dX6_once_99 hl (k := 2) rfl rfl (by decide) rfl (fun ls hl => ?_)
        refine lv_goto (tgt := 4) hx hb dX6_once_102 (by decide) ?_
        have hE : (r_onceIt x 0 (k + 1)) = (r_onceIt x 0 k) ||| (if (((r_onceJt x k 0 0 4).1) + ((r_onceJt x k 0 0 4).2)) ≤ 1 then 0 else if (r_onceJt x k 0 0 4).1 = 0 then (1 : Int32) <<< ((nI k) &&& 31) else if (r_onceJt x k 0 0 4).2 = 0 then (1 : Int32) <<< ((nI k) &&& 31) else 0) := (by show r_onceIt_st x k (r_onceIt x 0 k) = _; (try unfold r_onceIt_st); first | done | rfl)
        refine ih_k (k + 1) (show k + 1 ≤ ((mS x) (0 : Int32).toNatClampNeg).toNatClampNeg by omega) (by omega) ls ?_
        show lv_has ls 7 [(0, .ref (M 0)), (1, .int (r_onceIt x 0 (k + 1))), (2, .int (nI (k + 1)))]
        rw [nI_succ, hE]
        exact lv_sub hl [2, 1, 0] rfl
      · refine lv_icmp_le (tgt := 96) hx hb dX6_once_78 (by decide) (fun h_4 => ?_) (fun h_4 => ?_)
        · refine lv_iconst (v := 0) hx hb dX6_once_96 (by decide) ?_
          have hJ := J_3; (repeat rw [if_pos h_4] at hJ)
          first | exact hJ ls (lv_sub hl [0, 1, 2, 3, 4, 5] rfl) | ((repeat rw [if_pos h_4] at hl); (repeat rw [if_pos h_4]); exact hJ ls (lv_sub hl [0, 1, 2, 3, 4, 5] rfl))
        · refine lv_iload_n hx hb dX6_once_81 rfl (lv_at hl 3 rfl) ?_
          refine lv_if_eq (tgt := 90) hx hb dX6_once_82 (by decide) (fun h_5 => ?_) (fun h_5 => ?_)
          · refine lv_iconst (v := 1) hx hb dX6_once_90 (by decide) ?_
            refine lv_iload_n hx hb dX6_once_91 rfl (lv_at hl 2 rfl) ?_
            refine lv_ishl hx hb dX6_once_92 ?_
            refine lv_goto (tgt := 97) hx hb dX6_once_93 (by decide) ?_
            have hJ := J_3; (repeat rw [if_neg h_4] at hJ); (repeat rw [if_pos h_5] at hJ)
            first | exact hJ ls (lv_sub hl [0, 1, 2, 3, 4, 5] rfl) | ((repeat rw [if_neg h_4] at hl); (repeat rw [if_pos h_5] at hl); (repeat rw [if_neg h_4]); (repeat rw [if_pos h_5]); exact hJ ls (lv_sub hl [0, 1, 2, 3, 4, 5] rfl))
          · refine lv_iload hx hb dX6_once_85 (lv_at hl 4 rfl) ?_
            refine lv_if_ne (tgt := 96) hx hb dX6_once_87 (by decide) (fun h_6 => ?_) (fun h_6 => ?_)
            · refine lv_iconst (v := 0) hx hb dX6_once_96 (by decide) ?_
              have hJ := J_3; (repeat rw [if_neg h_4] at hJ); (repeat rw [if_neg h_5] at hJ); (repeat rw [if_neg h_6] at hJ)
              first | exact hJ ls (lv_sub hl [0, 1, 2, 3, 4, 5] rfl) | ((repeat rw [if_neg h_4] at hl); (repeat rw [if_neg h_5] at hl); (repeat rw [if_neg h_6] at hl); (repeat rw [if_neg h_4]); (repeat rw [if_neg h_5]); (repeat rw [if_neg h_6]); exact hJ ls (lv_sub hl [0, 1, 2, 3, 4, 5] rfl))
            · refine lv_iconst (v := 1) hx hb dX6_once_90 (by decide) ?_
              refine lv_iload_n hx hb dX6_once_91 rfl (lv_at hl 2 rfl) ?_
              refine lv_ishl hx hb dX6_once_92 ?_
              refine lv_goto (tgt := 97) hx hb dX6_once_93 (by decide) ?_
              have hJ := J_3; (repeat rw [if_neg h_4] at hJ); (repeat rw [if_neg h_5] at hJ); (repeat rw [if_pos h_6] at hJ)
              first | exact hJ ls (lv_sub hl [0, 1, 2, 3, 4, 5] rfl) | ((repeat rw [if_neg h_4] at hl); (repeat rw [if_neg h_5] at hl); (repeat rw [if_pos h_6] at hl); (repeat rw [if_neg h_4]); (repeat rw [if_neg h_5]); (repeat rw [if_pos h_6]); exact hJ ls (lv_sub hl [0, 1, 2, 3, 4, 5] rfl))
    · have hlt_j : j < 4 := ge_in (N := 4) rfl h_2 hk_j (by omega)
      refine lv_aload_n hx hb dX6_once_28 rfl (lv_at hl 0 rfl) ?_
      refine lv_iload_n hx hb dX6_once_29 rfl (lv_at hl 2 rfl) ?_
      refine lv_iload hx hb dX6_once_30 (lv_at hl 5 rfl) ?_
      refine ro_call (va_runV (As := [.int (nI k), .int (nI j)]) (rest := []) hC (c_X6_step l G M x (nI k) (nI j) hI hO ) (cwV 2 hts gX6_once_X6_step rfl rfl rfl kd_X6_step ⟨Nat.le_of_ble_eq_true rfl, Nat.le_of_ble_eq_true rfl⟩) (ro_preV hK hB.1 rfl hB) rfl rfl hl.1 rfl (lv_room (Nat.le_of_ble_eq_true rfl)) dX6_once_32 ⟨Nat.zero_le _, Nat.zero_le _⟩) ?_
      refine lv_istore (lv' := [(6, .int (r_step x (nI k) (nI j))), (0, .ref (M 0)), (1, .int (r_onceIt x 0 k)), (2, .int (nI k)), (3, .int ((r_onceJt x k 0 0 j).1)), (4, .int ((r_onceJt x k 0 0 j).2)), (5, .int (nI j))]) hx hb dX6_once_35 hl (by decide) rfl (fun ls hl => ?_)
      refine lv_iload_n hx hb dX6_once_37 rfl (lv_at hl 4 rfl) ?_
      refine lv_iload hx hb dX6_once_38 (lv_at hl 0 rfl) ?_
      refine lv_iconst (v := 1) hx hb dX6_once_40 (by decide) ?_
      refine join_at (nL := 7) 49 [(6, .int (r_step x (nI k) (nI j))), (0, .ref (M 0)), (1, .int (r_onceIt x 0 k)), (2, .int (nI k)), (3, .int ((r_onceJt x k 0 0 j).1)), (4, .int ((r_onceJt x k 0 0 j).2)), (5, .int (nI j))] [.int (b2i (if (r_step x (nI k) (nI j)) = 1 then true else false)), .int ((r_onceJt x k 0 0 j).1)] (fun ls hl => ?_) (fun J_7 => ?_)
      · refine lv_iadd hx hb dX6_once_49 ?_
        refine lv_istore_n (lv' := [(3, .int (((r_onceJt x k 0 0 j).1) + (b2i (if (r_step x (nI k) (nI j)) = 1 then true else false)))), (6, .int (r_step x (nI k) (nI j))), (0, .ref (M 0)), (1, .int (r_onceIt x 0 k)), (2, .int (nI k)), (4, .int ((r_onceJt x k 0 0 j).2)), (5, .int (nI j))]) hx hb dX6_once_50 rfl hl (by decide) rfl (fun ls hl => ?_)
        refine lv_iload hx hb dX6_once_51 (lv_at hl 5 rfl) ?_
        refine lv_iload hx hb dX6_once_53 (lv_at hl 1 rfl) ?_
        refine join_at (nL := 7) 63 [(3, .int (((r_onceJt x k 0 0 j).1) + (b2i (if (r_step x (nI k) (nI j)) = 1 then true else false)))), (6, .int (r_step x (nI k) (nI j))), (0, .ref (M 0)), (1, .int (r_onceIt x 0 k)), (2, .int (nI k)), (4, .int ((r_onceJt x k 0 0 j).2)), (5, .int (nI j))] [.int (b2i (if (r_step x (nI k) (nI j)) = 0 then true else false)), .int ((r_onceJt x k 0 0 j).2)] (fun ls hl => ?_) (fun J_8 => ?_)
        · refine lv_iadd hx hb dX6_once_63 ?_
          refine lv_istore (lv' := [(4, .int (((r_onceJt x k 0 0 j).2) + (b2i (if (r_step x (nI k) (nI j)) = 0 then true else false)))), (3, .int (((r_onceJt x k 0 0 j).1) + (b2i (if (r_step x (nI k) (nI j)) = 1 then true else false)))), (6, .int (r_step x (nI k) (nI j))), (0, .ref (M 0)), (1, .int (r_onceIt x 0 k)), (2, .int (nI k)), (5, .int (nI j))]) hx hb dX6_once_64 hl (by decide) rfl (fun ls hl => ?_)
          refine lv_iinc (v := (nI j) + 1) (lv' := [(5, .int ((nI j) + 1)), (4, .int (((r_onceJt x k 0 0 j).2) + (b2i (if (r_step x (nI k) (nI j)) = 0 then true else false)))), (3, .int (((r_onceJt x k 0 0 j).1) + (b2i (if (r_step x (nI k) (nI j)) = 1 then true else false)))), (6, .int (r_step x (nI k) (nI j))), (0, .ref (M 0)), (1, .int (r_onceIt x 0 k)), (2, .int (nI k))]) hx hb dX6_once_66 hl (k := 6) rfl rfl (by decide) rfl (fun ls hl => ?_)
          refine lv_goto (tgt := 22) hx hb dX6_once_69 (by decide) ?_
          have hE : (r_onceJt x k 0 0 (j + 1)) = (((r_onceJt x k 0 0 j).1) + (b2i (if (r_step x (nI k) (nI j)) = 1 then true else false)), ((r_onceJt x k 0 0 j).2) + (b2i (if (r_step x (nI k) (nI j)) = 0 then true else false))) := (by show r_onceJt_st x k j ((r_onceJt x k 0 0 j).1) ((r_onceJt x k 0 0 j).2) = _; (try unfold r_onceJt_st); first | done | rfl)
          refine ih_j (j + 1) (show j + 1 ≤ 4 by omega) (by omega) ls ?_
          show lv_has ls 7 [(0, .ref (M 0)), (1, .int (r_onceIt x 0 k)), (2, .int (nI k)), (3, .int ((r_onceJt x k 0 0 (j + 1)).1)), (4, .int ((r_onceJt x k 0 0 (j + 1)).2)), (5, .int (nI (j + 1)))]
          rw [nI_succ, hE]
          exact lv_sub hl [4, 5, 6, 2, 1, 0] rfl
        · refine lv_if_ne (tgt := 62) hx hb dX6_once_55 (by decide) (fun h_9 => ?_) (fun h_9 => ?_)
          · refine lv_iconst (v := 0) hx hb dX6_once_62 (by decide) ?_
            have hJ := J_8; (repeat rw [if_neg h_9] at hJ)
            first | exact hJ ls (lv_sub hl [0, 1, 2, 3, 4, 5, 6] rfl) | ((repeat rw [if_neg h_9] at hl); (repeat rw [if_neg h_9]); exact hJ ls (lv_sub hl [0, 1, 2, 3, 4, 5, 6] rfl))
          · refine lv_iconst (v := 1) hx hb dX6_once_58 (by decide) ?_
            refine lv_goto (tgt := 63) hx hb dX6_once_59 (by decide) ?_
            have hJ := J_8; (repeat rw [if_pos h_9] at hJ)
            first | exact hJ ls (lv_sub hl [0, 1, 2, 3, 4, 5, 6] rfl) | ((repeat rw [if_pos h_9] at hl); (repeat rw [if_pos h_9]); exact hJ ls (lv_sub hl [0, 1, 2, 3, 4, 5, 6] rfl))
      · refine lv_icmp_ne (tgt := 48) hx hb dX6_once_41 (by decide) (fun h_10 => ?_) (fun h_10 => ?_)
        · refine lv_iconst (v := 0) hx hb dX6_once_48 (by decide) ?_
          have hJ := J_7; (repeat rw [if_neg h_10] at hJ)
          first | exact hJ ls (lv_sub hl [0, 1, 2, 3, 4, 5, 6] rfl) | ((repeat rw [if_neg h_10] at hl); (repeat rw [if_neg h_10]); exact hJ ls (lv_sub hl [0, 1, 2, 3, 4, 5, 6] rfl))
        · refine lv_iconst (v := 1) hx hb dX6_once_44 (by decide) ?_
          refine lv_goto (tgt := 49) hx hb dX6_once_45 (by decide) ?_
          have hJ := J_7; (repeat rw [if_pos h_10] at hJ)
          first | exact hJ ls (lv_sub hl [0, 1, 2, 3, 4, 5, 6] rfl) | ((repeat rw [if_pos h_10] at hl); (repeat rw [if_pos h_10]); exact hJ ls (lv_sub hl [0, 1, 2, 3, 4, 5, 6] rfl))
theorem i_X6_order_X6 : ∀ w ∈ wsX60, w ∈ wsX6_order := fun _ h => List.mem_cons_of_mem _ (List.mem_append_right _ h)
theorem k_X6_order_fieldLink_9 : Cond.fieldLink RX6 9 "SameWaterModel" "s" "[I" ∈ wsX6_order := by decide +kernel
def r_orderIt_st (x : MT) (kk jj : Int32) (k : Nat) (cn : Int32) : Int32 := cn + (b2i (if (r_step x (nI k) kk) = 1 then if (r_step x (nI k) jj) = 0 then true else false else false))
def r_orderIt (x : MT) (kk jj : Int32) (cn0 : Int32) : Nat → Int32
  | 0 => cn0
  | k + 1 => r_orderIt_st x kk jj k (r_orderIt x kk jj cn0 k)
def r_order (x : MT) (kk : Int32) (jj : Int32) : Int32 := if (r_isStuff kk) = true then if (r_isStuff jj) = true then if kk = jj then (-2) else (r_orderIt x kk jj 0 (((mS x) (0 : Int32).toNatClampNeg).toNatClampNeg)) else (-1) else (-1)
set_option maxHeartbeats 4000000 in
set_option maxRecDepth 100000 in
theorem c_X6_order (l : Launch) (G : GG) (M : Nat → Nat) (x : MT) (kk : Int32) (jj : Int32)  (hI : mI (mS x)) (hO : mO (mS x)) : Met l yX6_order wsX6_order { frames := 2, cells := 0, slots := 0, locals := 45 } (roP G [.ref (M 0), .int kk, .int jj] (fun H => MAt G M x H)) (roQ (some (.int (r_order x kk jj)))) 0 0 nF := by
  refine Met.ofW (cc := cX6_order) (maxL := 5) (ret := (some .int)) (by decide) rfl ?_
  intro p e s m args below meth c s₁ Bd hml hv
  obtain ⟨rfl, hK, hB⟩ := hv
  have hx := Bd.exec
  have hb := Bd.bytes
  have hr := Bd.returns
  have hts := atoms_spec (ws := wsX6_order) Bd.pre
  have hown : s.vm.findClass RX6 = some m.cls := findClass_of_methodNamed Bd.named
  have hlocks := Bd.notSynchronized
  have hC : CallFix p m c cX6_order 5 s _ wsX6_order RX6 := ⟨hx, hb, hml, hown, hts⟩
  have hl := lv_entry ([.ref (M 0), .int kk, .int jj]) (n := 5) (Nat.le_of_ble_eq_true rfl)
  rw [lg_entry_eq]
  generalize (lg_sl ([.ref (M 0), .int kk, .int jj]) ++ List.replicate (5 - (lg_sl ([.ref (M 0), .int kk, .int jj])).length) Slot.unset).toArray = ls at hl ⊢
  have hl : lv_has ls 5 [(0, .ref (M 0)), (1, .int kk), (2, .int jj)] := hl
  have hC0 : ib 0 8 ((mS x) (0 : Int32).toNatClampNeg) := hI 0 (0, 0, 0, 8) (by decide) (Nat.le_refl _) (Nat.le_refl _)
  have hD0 : ((mS x) (0 : Int32).toNatClampNeg).toNatClampNeg ≤ 8 := by have := (hC0.clamp (by decide)).2; omega
  refine lv_iload_n hx hb dX6_order_0 rfl (lv_at hl 1 rfl) ?_
  refine ro_call (va_runS (As := [.int kk]) (rest := []) hC (c_X6_isStuff l G kk) (va_cwS 1 hts gX6_order_X6_isStuff rfl rfl rfl kd_X6_isStuff ⟨Nat.le_of_ble_eq_true rfl, Nat.le_of_ble_eq_true rfl⟩) (ro_preS hK trivial) rfl rfl hl.1 rfl (lv_room (Nat.le_of_ble_eq_true rfl)) dX6_order_1 ⟨Nat.zero_le _, Nat.zero_le _⟩) ?_
  refine bz_eq (tgt := 14) hx hb dX6_order_4 (by decide) (fun h_1 => ?_) (fun h_1 => ?_)
  · refine lv_iconst (v := (-1)) hx hb dX6_order_14 (by decide) ?_
    exact ro_iret hx hb hr hlocks dX6_order_15 (by (try unfold r_order); (repeat rw [if_neg h_1]); first | done | rfl)
  · refine lv_iload_n hx hb dX6_order_7 rfl (lv_at hl 2 rfl) ?_
    refine ro_call (va_runS (As := [.int jj]) (rest := []) hC (c_X6_isStuff l G jj) (va_cwS 1 hts gX6_order_X6_isStuff rfl rfl rfl kd_X6_isStuff ⟨Nat.le_of_ble_eq_true rfl, Nat.le_of_ble_eq_true rfl⟩) (ro_preS hK trivial) rfl rfl hl.1 rfl (lv_room (Nat.le_of_ble_eq_true rfl)) dX6_order_8 ⟨Nat.zero_le _, Nat.zero_le _⟩) ?_
    refine bz_ne (tgt := 16) hx hb dX6_order_11 (by decide) (fun h_2 => ?_) (fun h_2 => ?_)
    · refine lv_iload_n hx hb dX6_order_16 rfl (lv_at hl 1 rfl) ?_
      refine lv_iload_n hx hb dX6_order_17 rfl (lv_at hl 2 rfl) ?_
      refine lv_icmp_ne (tgt := 24) hx hb dX6_order_18 (by decide) (fun h_3 => ?_) (fun h_3 => ?_)
      · refine lv_iconst (v := 0) hx hb dX6_order_24 (by decide) ?_
        refine lv_istore_n (lv' := [(3, .int 0), (0, .ref (M 0)), (1, .int kk), (2, .int jj)]) hx hb dX6_order_25 rfl hl (by decide) rfl (fun ls hl => ?_)
        refine lv_iconst (v := 0) hx hb dX6_order_26 (by decide) ?_
        refine lv_istore (lv' := [(4, .int 0), (3, .int 0), (0, .ref (M 0)), (1, .int kk), (2, .int jj)]) hx hb dX6_order_27 hl (by decide) rfl (fun ls hl => ?_)
        refine loop_at (nL := 5) (fun k : Nat => [(0, .ref (M 0)), (1, .int kk), (2, .int jj), (3, .int (r_orderIt x kk jj 0 k)), (4, .int (nI k))]) (fun k => k ≤ ((mS x) (0 : Int32).toNatClampNeg).toNatClampNeg) (fun k => ((mS x) (0 : Int32).toNatClampNeg).toNatClampNeg - k) 0 (Nat.zero_le _) (lv_sub hl [2, 3, 4, 1, 0] rfl) (fun k hk_k ih_k ls hl => ?_)
        have hl : lv_has ls 5 [(0, .ref (M 0)), (1, .int kk), (2, .int jj), (3, .int (r_orderIt x kk jj 0 k)), (4, .int (nI k))] := hl
        refine lv_iload hx hb dX6_order_29 (lv_at hl 4 rfl) ?_
        refine lv_aload_n hx hb dX6_order_31 rfl (lv_at hl 0 rfl) ?_
        refine r_get (C := RX6) (T := TX6) (N := 18) hx hb hts i_X6_order_X6 hown hK hB.1 rfl 1 (by decide) k_X6_order_fieldLink_9 rfl rfl dX6_order_32 ?_
        refine lv_iconst (v := 0) hx hb dX6_order_35 (by decide) ?_
        refine r_iald hx hb hK hB.2.1 (vp_ib (lo := 0) (hi := 0) (ib_nI (n := 0) (by decide)) (by decide) (by decide)) dX6_order_36 ?_
        refine lv_icmp_ge (tgt := 75) hx hb dX6_order_37 (by decide) (fun h_4 => ?_) (fun h_4 => ?_)
        · have hN_k : k = ((mS x) (0 : Int32).toNatClampNeg).toNatClampNeg := ge_ex (N := ((mS x) (0 : Int32).toNatClampNeg).toNatClampNeg) (cnt_beq hC0 (by decide)) h_4 hk_k (by omega)
          subst hN_k
          refine lv_iload_n hx hb dX6_order_75 rfl (lv_at hl 3 rfl) ?_
          exact ro_iret hx hb hr hlocks dX6_order_76 (by (try unfold r_order); (repeat rw [if_pos h_1]); (repeat rw [if_pos h_2]); (repeat rw [if_neg h_3]); first | done | rfl)
        · have hlt_k : k < ((mS x) (0 : Int32).toNatClampNeg).toNatClampNeg := ge_in (N := ((mS x) (0 : Int32).toNatClampNeg).toNatClampNeg) (cnt_beq hC0 (by decide)) h_4 hk_k (by omega)
          refine lv_iload_n hx hb dX6_order_40 rfl (lv_at hl 3 rfl) ?_
          refine lv_aload_n hx hb dX6_order_41 rfl (lv_at hl 0 rfl) ?_
          refine lv_iload hx hb dX6_order_42 (lv_at hl 4 rfl) ?_
          refine lv_iload_n hx hb dX6_order_44 rfl (lv_at hl 1 rfl) ?_
          refine ro_call (va_runV (As := [.int (nI k), .int kk]) (rest := [.int (r_orderIt x kk jj 0 k)]) hC (c_X6_step l G M x (nI k) kk hI hO ) (cwV 2 hts gX6_order_X6_step rfl rfl rfl kd_X6_step ⟨Nat.le_of_ble_eq_true rfl, Nat.le_of_ble_eq_true rfl⟩) (ro_preV hK hB.1 rfl hB) rfl rfl hl.1 rfl (lv_room (Nat.le_of_ble_eq_true rfl)) dX6_order_45 ⟨Nat.zero_le _, Nat.zero_le _⟩) ?_
          refine lv_iconst (v := 1) hx hb dX6_order_48 (by decide) ?_
          refine join_at (nL := 5) 67 [(0, .ref (M 0)), (1, .int kk), (2, .int jj), (3, .int (r_orderIt x kk jj 0 k)), (4, .int (nI k))] [.int (b2i (if (r_step x (nI k) kk) = 1 then if (r_step x (nI k) jj) = 0 then true else false else false)), .int (r_orderIt x kk jj 0 k)] (fun ls hl => ?_) (fun J_5 => ?_)
          · refine lv_iadd hx hb dX6_order_67 ?_
            refine lv_istore_n (lv' := [(3, .int ((r_orderIt x kk jj 0 k) + (b2i (if (r_step x (nI k) kk) = 1 then if (r_step x (nI k) jj) = 0 then true else false else false)))), (0, .ref (M 0)), (1, .int kk), (2, .int jj), (4, .int (nI k))]) hx hb dX6_order_68 rfl hl (by decide) rfl (fun ls hl => ?_)
            refine lv_iinc (v := (nI k) + 1) (lv' := [(4, .int ((nI k) + 1)), (3, .int ((r_orderIt x kk jj 0 k) + (b2i (if (r_step x (nI k) kk) = 1 then if (r_step x (nI k) jj) = 0 then true else false else false)))), (0, .ref (M 0)), (1, .int kk), (2, .int jj)]) hx hb dX6_order_69 hl (k := 4) rfl rfl (by decide) rfl (fun ls hl => ?_)
            refine lv_goto (tgt := 29) hx hb dX6_order_72 (by decide) ?_
            have hE : (r_orderIt x kk jj 0 (k + 1)) = (r_orderIt x kk jj 0 k) + (b2i (if (r_step x (nI k) kk) = 1 then if (r_step x (nI k) jj) = 0 then true else false else false)) := (by show r_orderIt_st x kk jj k (r_orderIt x kk jj 0 k) = _; (try unfold r_orderIt_st); first | done | rfl)
            refine ih_k (k + 1) (show k + 1 ≤ ((mS x) (0 : Int32).toNatClampNeg).toNatClampNeg by omega) (by omega) ls ?_
            show lv_has ls 5 [(0, .ref (M 0)), (1, .int kk), (2, .int jj), (3, .int (r_orderIt x kk jj 0 (k + 1))), (4, .int (nI (k + 1)))]
            rw [nI_succ, hE]
            exact lv_sub hl [2, 3, 4, 1, 0] rfl
          · refine lv_icmp_ne (tgt := 66) hx hb dX6_order_49 (by decide) (fun h_6 => ?_) (fun h_6 => ?_)
            · refine lv_iconst (v := 0) hx hb dX6_order_66 (by decide) ?_
              have hJ := J_5; (repeat rw [if_neg h_6] at hJ)
              first | exact hJ ls (lv_sub hl [0, 1, 2, 3, 4] rfl) | ((repeat rw [if_neg h_6] at hl); (repeat rw [if_neg h_6]); exact hJ ls (lv_sub hl [0, 1, 2, 3, 4] rfl))
            · refine lv_aload_n hx hb dX6_order_52 rfl (lv_at hl 0 rfl) ?_
              refine lv_iload hx hb dX6_order_53 (lv_at hl 4 rfl) ?_
              refine lv_iload_n hx hb dX6_order_55 rfl (lv_at hl 2 rfl) ?_
              refine ro_call (va_runV (As := [.int (nI k), .int jj]) (rest := [.int (r_orderIt x kk jj 0 k)]) hC (c_X6_step l G M x (nI k) jj hI hO ) (cwV 2 hts gX6_order_X6_step rfl rfl rfl kd_X6_step ⟨Nat.le_of_ble_eq_true rfl, Nat.le_of_ble_eq_true rfl⟩) (ro_preV hK hB.1 rfl hB) rfl rfl hl.1 rfl (lv_room (Nat.le_of_ble_eq_true rfl)) dX6_order_56 ⟨Nat.zero_le _, Nat.zero_le _⟩) ?_
              refine lv_if_ne (tgt := 66) hx hb dX6_order_59 (by decide) (fun h_7 => ?_) (fun h_7 => ?_)
              · refine lv_iconst (v := 0) hx hb dX6_order_66 (by decide) ?_
                have hJ := J_5; (repeat rw [if_pos h_6] at hJ); (repeat rw [if_neg h_7] at hJ)
                first | exact hJ ls (lv_sub hl [0, 1, 2, 3, 4] rfl) | ((repeat rw [if_pos h_6] at hl); (repeat rw [if_neg h_7] at hl); (repeat rw [if_pos h_6]); (repeat rw [if_neg h_7]); exact hJ ls (lv_sub hl [0, 1, 2, 3, 4] rfl))
              · refine lv_iconst (v := 1) hx hb dX6_order_62 (by decide) ?_
                refine lv_goto (tgt := 67) hx hb dX6_order_63 (by decide) ?_
                have hJ := J_5; (repeat rw [if_pos h_6] at hJ); (repeat rw [if_pos h_7] at hJ)
                first | exact hJ ls (lv_sub hl [0, 1, 2, 3, 4] rfl) | ((repeat rw [if_pos h_6] at hl); (repeat rw [if_pos h_7] at hl); (repeat rw [if_pos h_6]); (repeat rw [if_pos h_7]); exact hJ ls (lv_sub hl [0, 1, 2, 3, 4] rfl))
      · refine lv_bipush (v := (-2)) hx hb dX6_order_21 (by decide +kernel) ?_
        exact ro_iret hx hb hr hlocks dX6_order_23 (by (try unfold r_order); (repeat rw [if_pos h_1]); (repeat rw [if_pos h_2]); (repeat rw [if_pos h_3]); first | done | rfl)
    · refine lv_iconst (v := (-1)) hx hb dX6_order_14 (by decide) ?_
      exact ro_iret hx hb hr hlocks dX6_order_15 (by (try unfold r_order); (repeat rw [if_pos h_1]); (repeat rw [if_neg h_2]); first | done | rfl)
theorem i_X6_from_X6 : ∀ w ∈ wsX60, w ∈ wsX6_from := fun _ h => List.mem_cons_of_mem _ (List.mem_append_right _ h)
theorem k_X6_from_fieldLink_9 : Cond.fieldLink RX6 9 "SameWaterModel" "s" "[I" ∈ wsX6_from := by decide +kernel
def r_fromIt_st (x : MT) (stuff : Int32) (why : Bool) (k : Nat) (j : Nat) (al : Int32) (gd : Int32) : Int32 × Int32 := (if ((mS x) (170 + ((mS x) (322 + (nI j)).toNatClampNeg)).toNatClampNeg) = stuff then if (r_isUnchanged x (nI j)) = true then if ((mS x) (442 + (nI j)).toNatClampNeg) < (nI k) then al else al + 1 else al else al, if ((mS x) (170 + ((mS x) (322 + (nI j)).toNatClampNeg)).toNatClampNeg) = stuff then if (r_isUnchanged x (nI j)) = true then if ((mS x) (442 + (nI j)).toNatClampNeg) < (nI k) then gd else gd + (b2i (if ((mS x) (362 + (nI j)).toNatClampNeg) = 1 then if why = true then if ((mS x) (402 + (nI j)).toNatClampNeg) = 1 then true else false else true else false)) else gd else gd)
def r_fromIt (x : MT) (stuff : Int32) (why : Bool) (k : Nat) (al0 : Int32) (gd0 : Int32) : Nat → Int32 × Int32
  | 0 => (al0, gd0)
  | j + 1 => r_fromIt_st x stuff why k j ((r_fromIt x stuff why k al0 gd0 j).1) ((r_fromIt x stuff why k al0 gd0 j).2)
def r_fromGo (x : MT) (stuff : Int32) (why : Bool) : Nat → Nat → Int32
  | 0, _ => (-5)
  | n + 1, k => if (2 * ((r_fromIt x stuff why k 0 0 (((mS x) (2 : Int32).toNatClampNeg).toNatClampNeg)).2)) ≤ ((r_fromIt x stuff why k 0 0 (((mS x) (2 : Int32).toNatClampNeg).toNatClampNeg)).1) then r_fromGo x stuff why n (k + 1)  else nI k
theorem r_fromGo_0 (x : MT) (stuff : Int32) (why : Bool) (k : Nat)  : r_fromGo x stuff why 0 k  = ((-5)) := rfl
theorem r_fromGo_s (x : MT) (stuff : Int32) (why : Bool) (n k : Nat)  : r_fromGo x stuff why (n + 1) k  = (if (2 * ((r_fromIt x stuff why k 0 0 (((mS x) (2 : Int32).toNatClampNeg).toNatClampNeg)).2)) ≤ ((r_fromIt x stuff why k 0 0 (((mS x) (2 : Int32).toNatClampNeg).toNatClampNeg)).1) then r_fromGo x stuff why n (k + 1)  else nI k) := rfl
def r_from (x : MT) (stuff : Int32) (why : Bool) : Int32 := if (r_isStuff stuff) = true then r_fromGo x stuff why (121 - 24) 24  else (-1)
set_option maxHeartbeats 4000000 in
set_option maxRecDepth 100000 in
theorem c_X6_from (l : Launch) (G : GG) (M : Nat → Nat) (x : MT) (stuff : Int32) (why : Bool)  (hI : mI (mS x)) (hO : mO (mS x)) : Met l yX6_from wsX6_from { frames := 2, cells := 0, slots := 0, locals := 42 } (roP G [.ref (M 0), .int stuff, .int (b2i why)] (fun H => MAt G M x H)) (roQ (some (.int (r_from x stuff why)))) 0 0 nF := by
  refine Met.ofW (cc := cX6_from) (maxL := 7) (ret := (some .int)) (by decide) rfl ?_
  intro p e s m args below meth c s₁ Bd hml hv
  obtain ⟨rfl, hK, hB⟩ := hv
  have hx := Bd.exec
  have hb := Bd.bytes
  have hr := Bd.returns
  have hts := atoms_spec (ws := wsX6_from) Bd.pre
  have hown : s.vm.findClass RX6 = some m.cls := findClass_of_methodNamed Bd.named
  have hlocks := Bd.notSynchronized
  have hC : CallFix p m c cX6_from 7 s _ wsX6_from RX6 := ⟨hx, hb, hml, hown, hts⟩
  have hl := lv_entry ([.ref (M 0), .int stuff, .int (b2i why)]) (n := 7) (Nat.le_of_ble_eq_true rfl)
  rw [lg_entry_eq]
  generalize (lg_sl ([.ref (M 0), .int stuff, .int (b2i why)]) ++ List.replicate (7 - (lg_sl ([.ref (M 0), .int stuff, .int (b2i why)])).length) Slot.unset).toArray = ls at hl ⊢
  have hl : lv_has ls 7 [(0, .ref (M 0)), (1, .int stuff), (2, .int (b2i why))] := hl
  have hC2 : ib 0 40 ((mS x) (2 : Int32).toNatClampNeg) := hI 2 (2, 2, 0, 40) (by decide) (Nat.le_refl _) (Nat.le_refl _)
  have hD2 : ((mS x) (2 : Int32).toNatClampNeg).toNatClampNeg ≤ 40 := by have := (hC2.clamp (by decide)).2; omega
  refine lv_iload_n hx hb dX6_from_0 rfl (lv_at hl 1 rfl) ?_
  refine ro_call (va_runS (As := [.int stuff]) (rest := []) hC (c_X6_isStuff l G stuff) (va_cwS 1 hts gX6_from_X6_isStuff rfl rfl rfl kd_X6_isStuff ⟨Nat.le_of_ble_eq_true rfl, Nat.le_of_ble_eq_true rfl⟩) (ro_preS hK trivial) rfl rfl hl.1 rfl (lv_room (Nat.le_of_ble_eq_true rfl)) dX6_from_1 ⟨Nat.zero_le _, Nat.zero_le _⟩) ?_
  refine bz_ne (tgt := 9) hx hb dX6_from_4 (by decide) (fun h_1 => ?_) (fun h_1 => ?_)
  · refine lv_bipush (v := 24) hx hb dX6_from_9 (by decide +kernel) ?_
    refine lv_istore_n (lv' := [(3, .int 24), (0, .ref (M 0)), (1, .int stuff), (2, .int (b2i why))]) hx hb dX6_from_11 rfl hl (by decide) rfl (fun ls hl => ?_)
    refine loop_at (nL := 7) (α := Nat) (fun a9 => [(0, .ref (M 0)), (1, .int stuff), (2, .int (b2i why)), (3, .int (nI a9))]) (fun a9 => a9 ≤ 121 ∧ r_fromGo x stuff why (121 - a9) a9  = r_fromGo x stuff why (121 - 24) 24 ) (fun a9 => 121 - a9) 24 ⟨(by first | exact Nat.zero_le _ | decide | omega), rfl⟩ (lv_sub hl [1, 2, 3, 0] rfl) (fun a9 hI9 ih_k ls hl => ?_)
    obtain ⟨k, rfl⟩ : ∃ z, z = a9 := ⟨_, rfl⟩
    obtain ⟨hk_k, hV⟩ : k ≤ 121 ∧ r_fromGo x stuff why (121 - k) k  = r_fromGo x stuff why (121 - 24) 24  := hI9
    have hl : lv_has ls 7 [(0, .ref (M 0)), (1, .int stuff), (2, .int (b2i why)), (3, .int (nI k))] := hl
    refine lv_iload_n hx hb dX6_from_12 rfl (lv_at hl 3 rfl) ?_
    refine lv_bipush (v := 120) hx hb dX6_from_13 (by decide +kernel) ?_
    refine lv_icmp_gt (tgt := 156) hx hb dX6_from_15 (by decide) (fun h_2 => ?_) (fun h_2 => ?_)
    · have hN_k : k = 121 := gt_ex (N := 120) rfl h_2 hk_k (by omega)
      subst hN_k
      rw [Nat.sub_self] at hV
      refine lv_bipush (v := (-5)) hx hb dX6_from_156 (by decide +kernel) ?_
      exact ro_iret hx hb hr hlocks dX6_from_158 (by (try unfold r_from); (repeat rw [if_pos h_1]); rw [← hV, r_fromGo_0]; first | done | rfl)
    · have hlt_k : k < 121 := gt_in (N := 120) rfl h_2 hk_k (by omega)
      obtain ⟨n9, hn9⟩ : ∃ n9, 121 - k = n9 + 1 := ⟨121 - k - 1, by omega⟩
      rw [hn9] at hV
      refine lv_iconst (v := 0) hx hb dX6_from_18 (by decide) ?_
      refine lv_istore (lv' := [(4, .int 0), (0, .ref (M 0)), (1, .int stuff), (2, .int (b2i why)), (3, .int (nI k))]) hx hb dX6_from_19 hl (by decide) rfl (fun ls hl => ?_)
      refine lv_iconst (v := 0) hx hb dX6_from_21 (by decide) ?_
      refine lv_istore (lv' := [(5, .int 0), (4, .int 0), (0, .ref (M 0)), (1, .int stuff), (2, .int (b2i why)), (3, .int (nI k))]) hx hb dX6_from_22 hl (by decide) rfl (fun ls hl => ?_)
      refine lv_iconst (v := 0) hx hb dX6_from_24 (by decide) ?_
      refine lv_istore (lv' := [(6, .int 0), (5, .int 0), (4, .int 0), (0, .ref (M 0)), (1, .int stuff), (2, .int (b2i why)), (3, .int (nI k))]) hx hb dX6_from_25 hl (by decide) rfl (fun ls hl => ?_)
      refine loop_at (nL := 7) (fun j : Nat => [(0, .ref (M 0)), (1, .int stuff), (2, .int (b2i why)), (3, .int (nI k)), (4, .int ((r_fromIt x stuff why k 0 0 j).1)), (5, .int ((r_fromIt x stuff why k 0 0 j).2)), (6, .int (nI j))]) (fun j => j ≤ ((mS x) (2 : Int32).toNatClampNeg).toNatClampNeg) (fun j => ((mS x) (2 : Int32).toNatClampNeg).toNatClampNeg - j) 0 (Nat.zero_le _) (lv_sub hl [3, 4, 5, 6, 2, 1, 0] rfl) (fun j hk_j ih_j ls hl => ?_)
      have hl : lv_has ls 7 [(0, .ref (M 0)), (1, .int stuff), (2, .int (b2i why)), (3, .int (nI k)), (4, .int ((r_fromIt x stuff why k 0 0 j).1)), (5, .int ((r_fromIt x stuff why k 0 0 j).2)), (6, .int (nI j))] := hl
      refine lv_iload hx hb dX6_from_27 (lv_at hl 6 rfl) ?_
      refine lv_aload_n hx hb dX6_from_29 rfl (lv_at hl 0 rfl) ?_
      refine r_get (C := RX6) (T := TX6) (N := 18) hx hb hts i_X6_from_X6 hown hK hB.1 rfl 1 (by decide) k_X6_from_fieldLink_9 rfl rfl dX6_from_30 ?_
      refine lv_iconst (v := 2) hx hb dX6_from_33 (by decide) ?_
      refine r_iald hx hb hK hB.2.1 (vp_ib (lo := 2) (hi := 2) (ib_nI (n := 2) (by decide)) (by decide) (by decide)) dX6_from_34 ?_
      refine lv_icmp_ge (tgt := 139) hx hb dX6_from_35 (by decide) (fun h_3 => ?_) (fun h_3 => ?_)
      · have hN_j : j = ((mS x) (2 : Int32).toNatClampNeg).toNatClampNeg := ge_ex (N := ((mS x) (2 : Int32).toNatClampNeg).toNatClampNeg) (cnt_beq hC2 (by decide)) h_3 hk_j (by omega)
        subst hN_j
        refine lv_iconst (v := 2) hx hb dX6_from_139 (by decide) ?_
        refine lv_iload hx hb dX6_from_140 (lv_at hl 5 rfl) ?_
        refine lv_imul hx hb dX6_from_142 ?_
        refine lv_iload hx hb dX6_from_143 (lv_at hl 4 rfl) ?_
        refine lv_icmp_le (tgt := 150) hx hb dX6_from_145 (by decide) (fun h_4 => ?_) (fun h_4 => ?_)
        · refine lv_iinc (v := (nI k) + 1) (lv' := [(3, .int ((nI k) + 1)), (0, .ref (M 0)), (1, .int stuff), (2, .int (b2i why)), (4, .int ((r_fromIt x stuff why k 0 0 (((mS x) (2 : Int32).toNatClampNeg).toNatClampNeg)).1)), (5, .int ((r_fromIt x stuff why k 0 0 (((mS x) (2 : Int32).toNatClampNeg).toNatClampNeg)).2)), (6, .int (nI (((mS x) (2 : Int32).toNatClampNeg).toNatClampNeg)))]) hx hb dX6_from_150 hl (k := 3) rfl rfl (by decide) rfl (fun ls hl => ?_)
          refine lv_goto (tgt := 12) hx hb dX6_from_153 (by decide) ?_
          have hE : r_fromGo x stuff why n9 (k + 1)  = r_fromGo x stuff why (121 - 24) 24  := (by rw [← hV, r_fromGo_s]; (repeat rw [if_pos h_4]); first | done | rfl)
          refine ih_k (k + 1) ⟨(show k + 1 ≤ 121 by omega), (by show r_fromGo x stuff why (121 - (k + 1)) (k + 1)  = _; rw [show 121 - (k + 1) = n9 by omega]; exact hE)⟩ (show 121 - (k + 1) < 121 - k by omega) ls ?_
          show lv_has ls 7 [(0, .ref (M 0)), (1, .int stuff), (2, .int (b2i why)), (3, .int (nI (k + 1)))]
          rw [nI_succ]
          exact lv_sub hl [1, 2, 3, 0] rfl
        · refine lv_iload_n hx hb dX6_from_148 rfl (lv_at hl 3 rfl) ?_
          exact ro_iret hx hb hr hlocks dX6_from_149 (by (try unfold r_from); (repeat rw [if_pos h_1]); rw [← hV, r_fromGo_s]; (repeat rw [if_neg h_2]); (repeat rw [if_neg h_4]); first | done | rfl)
      · have hlt_j : j < ((mS x) (2 : Int32).toNatClampNeg).toNatClampNeg := ge_in (N := ((mS x) (2 : Int32).toNatClampNeg).toNatClampNeg) (cnt_beq hC2 (by decide)) h_3 hk_j (by omega)
        refine lv_aload_n hx hb dX6_from_38 rfl (lv_at hl 0 rfl) ?_
        refine r_get (C := RX6) (T := TX6) (N := 18) hx hb hts i_X6_from_X6 hown hK hB.1 rfl 1 (by decide) k_X6_from_fieldLink_9 rfl rfl dX6_from_39 ?_
        refine lv_sipush (v := 170) hx hb dX6_from_42 (by decide +kernel) ?_
        refine lv_aload_n hx hb dX6_from_45 rfl (lv_at hl 0 rfl) ?_
        refine r_get (C := RX6) (T := TX6) (N := 18) hx hb hts i_X6_from_X6 hown hK hB.1 rfl 1 (by decide) k_X6_from_fieldLink_9 rfl rfl dX6_from_46 ?_
        refine lv_sipush (v := 322) hx hb dX6_from_49 (by decide +kernel) ?_
        refine lv_iload hx hb dX6_from_52 (lv_at hl 6 rfl) ?_
        refine lv_iadd hx hb dX6_from_54 ?_
        refine r_iald hx hb hK hB.2.1 (vp_ib (lo := 322) (hi := 361) (ib_add (ib_nI (n := 322) (by decide)) (ib_ltc hC2 (by omega) (by decide)) (by decide) (by decide)) (by decide) (by decide)) dX6_from_55 ?_
        refine lv_iadd hx hb dX6_from_56 ?_
        refine r_iald hx hb hK hB.2.1 (vp_ib (lo := 170) (hi := 185) (ib_add (ib_nI (n := 170) (by decide)) (mI.at (lo := 322) (hi := 361) (x := 0) (y := 15) hI (ib_add (ib_nI (n := 322) (by decide)) (ib_ltc hC2 (by omega) (by decide)) (by decide) (by decide)) (by decide) (by decide) (by decide)) (by decide) (by decide)) (by decide) (by decide)) dX6_from_57 ?_
        refine lv_iload_n hx hb dX6_from_58 rfl (lv_at hl 1 rfl) ?_
        refine join_at (nL := 7) 133 [(0, .ref (M 0)), (1, .int stuff), (2, .int (b2i why)), (3, .int (nI k)), (4, .int (if ((mS x) (170 + ((mS x) (322 + (nI j)).toNatClampNeg)).toNatClampNeg) = stuff then if (r_isUnchanged x (nI j)) = true then if ((mS x) (442 + (nI j)).toNatClampNeg) < (nI k) then (r_fromIt x stuff why k 0 0 j).1 else ((r_fromIt x stuff why k 0 0 j).1) + 1 else (r_fromIt x stuff why k 0 0 j).1 else (r_fromIt x stuff why k 0 0 j).1)), (5, .int (if ((mS x) (170 + ((mS x) (322 + (nI j)).toNatClampNeg)).toNatClampNeg) = stuff then if (r_isUnchanged x (nI j)) = true then if ((mS x) (442 + (nI j)).toNatClampNeg) < (nI k) then (r_fromIt x stuff why k 0 0 j).2 else ((r_fromIt x stuff why k 0 0 j).2) + (b2i (if ((mS x) (362 + (nI j)).toNatClampNeg) = 1 then if why = true then if ((mS x) (402 + (nI j)).toNatClampNeg) = 1 then true else false else true else false)) else (r_fromIt x stuff why k 0 0 j).2 else (r_fromIt x stuff why k 0 0 j).2)), (6, .int (nI j))] [] (fun ls hl => ?_) (fun J_5 => ?_)
        · refine lv_iinc (v := (nI j) + 1) (lv' := [(6, .int ((nI j) + 1)), (0, .ref (M 0)), (1, .int stuff), (2, .int (b2i why)), (3, .int (nI k)), (4, .int (if ((mS x) (170 + ((mS x) (322 + (nI j)).toNatClampNeg)).toNatClampNeg) = stuff then if (r_isUnchanged x (nI j)) = true then if ((mS x) (442 + (nI j)).toNatClampNeg) < (nI k) then (r_fromIt x stuff why k 0 0 j).1 else ((r_fromIt x stuff why k 0 0 j).1) + 1 else (r_fromIt x stuff why k 0 0 j).1 else (r_fromIt x stuff why k 0 0 j).1)), (5, .int (if ((mS x) (170 + ((mS x) (322 + (nI j)).toNatClampNeg)).toNatClampNeg) = stuff then if (r_isUnchanged x (nI j)) = true then if ((mS x) (442 + (nI j)).toNatClampNeg) < (nI k) then (r_fromIt x stuff why k 0 0 j).2 else ((r_fromIt x stuff why k 0 0 j).2) + (b2i (if ((mS x) (362 + (nI j)).toNatClampNeg) = 1 then if why = true then if ((mS x) (402 + (nI j)).toNatClampNeg) = 1 then true else false else true else false)) else (r_fromIt x stuff why k 0 0 j).2 else (r_fromIt x stuff why k 0 0 j).2))]) hx hb dX6_from_133 hl (k := 6) rfl rfl (by decide) rfl (fun ls hl => ?_)
          refine lv_goto (tgt := 27) hx hb dX6_from_136 (by decide) ?_
          have hE : (r_fromIt x stuff why k 0 0 (j + 1)) = (if ((mS x) (170 + ((mS x) (322 + (nI j)).toNatClampNeg)).toNatClampNeg) = stuff then if (r_isUnchanged x (nI j)) = true then if ((mS x) (442 + (nI j)).toNatClampNeg) < (nI k) then (r_fromIt x stuff why k 0 0 j).1 else ((r_fromIt x stuff why k 0 0 j).1) + 1 else (r_fromIt x stuff why k 0 0 j).1 else (r_fromIt x stuff why k 0 0 j).1, if ((mS x) (170 + ((mS x) (322 + (nI j)).toNatClampNeg)).toNatClampNeg) = stuff then if (r_isUnchanged x (nI j)) = true then if ((mS x) (442 + (nI j)).toNatClampNeg) < (nI k) then (r_fromIt x stuff why k 0 0 j).2 else ((r_fromIt x stuff why k 0 0 j).2) + (b2i (if ((mS x) (362 + (nI j)).toNatClampNeg) = 1 then if why = true then if ((mS x) (402 + (nI j)).toNatClampNeg) = 1 then true else false else true else false)) else (r_fromIt x stuff why k 0 0 j).2 else (r_fromIt x stuff why k 0 0 j).2) := (by show r_fromIt_st x stuff why k j ((r_fromIt x stuff why k 0 0 j).1) ((r_fromIt x stuff why k 0 0 j).2) = _; (try unfold r_fromIt_st); first | done | rfl)
          refine ih_j (j + 1) (show j + 1 ≤ ((mS x) (2 : Int32).toNatClampNeg).toNatClampNeg by omega) (by omega) ls ?_
          show lv_has ls 7 [(0, .ref (M 0)), (1, .int stuff), (2, .int (b2i why)), (3, .int (nI k)), (4, .int ((r_fromIt x stuff why k 0 0 (j + 1)).1)), (5, .int ((r_fromIt x stuff why k 0 0 (j + 1)).2)), (6, .int (nI (j + 1)))]
          rw [nI_succ, hE]
          exact lv_sub hl [1, 2, 3, 4, 5, 6, 0] rfl
        · refine lv_icmp_ne (tgt := 133) hx hb dX6_from_59 (by decide) (fun h_6 => ?_) (fun h_6 => ?_)
          · have hJ := J_5; (repeat rw [if_neg h_6] at hJ)
            first | exact hJ ls (lv_sub hl [0, 1, 2, 3, 4, 5, 6] rfl) | ((repeat rw [if_neg h_6] at hl); (repeat rw [if_neg h_6]); exact hJ ls (lv_sub hl [0, 1, 2, 3, 4, 5, 6] rfl))
          · refine lv_aload_n hx hb dX6_from_62 rfl (lv_at hl 0 rfl) ?_
            refine lv_iload hx hb dX6_from_63 (lv_at hl 6 rfl) ?_
            refine ro_call (va_runV (As := [.int (nI j)]) (rest := []) hC (c_X6_isUnchanged l G M x (nI j) hI hO (ib.weak (ib_ltc hC2 (by omega) (by decide)) (by decide) (by decide))) (cwV 1 hts gX6_from_X6_isUnchanged rfl rfl rfl kd_X6_isUnchanged ⟨Nat.le_of_ble_eq_true rfl, Nat.le_of_ble_eq_true rfl⟩) (ro_preV hK hB.1 rfl hB) rfl rfl hl.1 rfl (lv_room (Nat.le_of_ble_eq_true rfl)) dX6_from_65 ⟨Nat.zero_le _, Nat.zero_le _⟩) ?_
            refine bz_eq (tgt := 133) hx hb dX6_from_68 (by decide) (fun h_7 => ?_) (fun h_7 => ?_)
            · have hJ := J_5; (repeat rw [if_pos h_6] at hJ); (repeat rw [if_neg h_7] at hJ)
              first | exact hJ ls (lv_sub hl [0, 1, 2, 3, 4, 5, 6] rfl) | ((repeat rw [if_pos h_6] at hl); (repeat rw [if_neg h_7] at hl); (repeat rw [if_pos h_6]); (repeat rw [if_neg h_7]); exact hJ ls (lv_sub hl [0, 1, 2, 3, 4, 5, 6] rfl))
            · refine lv_aload_n hx hb dX6_from_71 rfl (lv_at hl 0 rfl) ?_
              refine r_get (C := RX6) (T := TX6) (N := 18) hx hb hts i_X6_from_X6 hown hK hB.1 rfl 1 (by decide) k_X6_from_fieldLink_9 rfl rfl dX6_from_72 ?_
              refine lv_sipush (v := 442) hx hb dX6_from_75 (by decide +kernel) ?_
              refine lv_iload hx hb dX6_from_78 (lv_at hl 6 rfl) ?_
              refine lv_iadd hx hb dX6_from_80 ?_
              refine r_iald hx hb hK hB.2.1 (vp_ib (lo := 442) (hi := 481) (ib_add (ib_nI (n := 442) (by decide)) (ib_ltc hC2 (by omega) (by decide)) (by decide) (by decide)) (by decide) (by decide)) dX6_from_81 ?_
              refine lv_iload_n hx hb dX6_from_82 rfl (lv_at hl 3 rfl) ?_
              refine lv_icmp_lt (tgt := 133) hx hb dX6_from_83 (by decide) (fun h_8 => ?_) (fun h_8 => ?_)
              · have hJ := J_5; (repeat rw [if_pos h_6] at hJ); (repeat rw [if_pos h_7] at hJ); (repeat rw [if_pos h_8] at hJ)
                first | exact hJ ls (lv_sub hl [0, 1, 2, 3, 4, 5, 6] rfl) | ((repeat rw [if_pos h_6] at hl); (repeat rw [if_pos h_7] at hl); (repeat rw [if_pos h_8] at hl); (repeat rw [if_pos h_6]); (repeat rw [if_pos h_7]); (repeat rw [if_pos h_8]); exact hJ ls (lv_sub hl [0, 1, 2, 3, 4, 5, 6] rfl))
              · refine lv_iinc (v := ((r_fromIt x stuff why k 0 0 j).1) + 1) (lv' := [(4, .int (((r_fromIt x stuff why k 0 0 j).1) + 1)), (0, .ref (M 0)), (1, .int stuff), (2, .int (b2i why)), (3, .int (nI k)), (5, .int ((r_fromIt x stuff why k 0 0 j).2)), (6, .int (nI j))]) hx hb dX6_from_86 hl (k := 4) rfl rfl (by decide) rfl (fun ls hl => ?_)
                refine lv_iload hx hb dX6_from_89 (lv_at hl 5 rfl) ?_
                refine lv_aload_n hx hb dX6_from_91 rfl (lv_at hl 1 rfl) ?_
                refine r_get (C := RX6) (T := TX6) (N := 18) hx hb hts i_X6_from_X6 hown hK hB.1 rfl 1 (by decide) k_X6_from_fieldLink_9 rfl rfl dX6_from_92 ?_
                refine lv_sipush (v := 362) hx hb dX6_from_95 (by decide +kernel) ?_
                refine lv_iload hx hb dX6_from_98 (lv_at hl 6 rfl) ?_
                refine lv_iadd hx hb dX6_from_100 ?_
                refine r_iald hx hb hK hB.2.1 (vp_ib (lo := 362) (hi := 401) (ib_add (ib_nI (n := 362) (by decide)) (ib_ltc hC2 (by omega) (by decide)) (by decide) (by decide)) (by decide) (by decide)) dX6_from_101 ?_
                refine lv_iconst (v := 1) hx hb dX6_from_102 (by decide) ?_
                refine join_at (nL := 7) 130 [(4, .int (((r_fromIt x stuff why k 0 0 j).1) + 1)), (0, .ref (M 0)), (1, .int stuff), (2, .int (b2i why)), (3, .int (nI k)), (5, .int ((r_fromIt x stuff why k 0 0 j).2)), (6, .int (nI j))] [.int (b2i (if ((mS x) (362 + (nI j)).toNatClampNeg) = 1 then if why = true then if ((mS x) (402 + (nI j)).toNatClampNeg) = 1 then true else false else true else false)), .int ((r_fromIt x stuff why k 0 0 j).2)] (fun ls hl => ?_) (fun J_9 => ?_)
                · refine lv_iadd hx hb dX6_from_130 ?_
                  refine lv_istore (lv' := [(5, .int (((r_fromIt x stuff why k 0 0 j).2) + (b2i (if ((mS x) (362 + (nI j)).toNatClampNeg) = 1 then if why = true then if ((mS x) (402 + (nI j)).toNatClampNeg) = 1 then true else false else true else false)))), (4, .int (((r_fromIt x stuff why k 0 0 j).1) + 1)), (0, .ref (M 0)), (1, .int stuff), (2, .int (b2i why)), (3, .int (nI k)), (6, .int (nI j))]) hx hb dX6_from_131 hl (by decide) rfl (fun ls hl => ?_)
                  have hJ := J_5; (repeat rw [if_pos h_6] at hJ); (repeat rw [if_pos h_7] at hJ); (repeat rw [if_neg h_8] at hJ)
                  first | exact hJ ls (lv_sub hl [2, 3, 4, 5, 1, 0, 6] rfl) | ((repeat rw [if_pos h_6] at hl); (repeat rw [if_pos h_7] at hl); (repeat rw [if_neg h_8] at hl); (repeat rw [if_pos h_6]); (repeat rw [if_pos h_7]); (repeat rw [if_neg h_8]); exact hJ ls (lv_sub hl [2, 3, 4, 5, 1, 0, 6] rfl))
                · refine lv_icmp_ne (tgt := 129) hx hb dX6_from_103 (by decide) (fun h_10 => ?_) (fun h_10 => ?_)
                  · refine lv_iconst (v := 0) hx hb dX6_from_129 (by decide) ?_
                    have hJ := J_9; (repeat rw [if_neg h_10] at hJ)
                    first | exact hJ ls (lv_sub hl [0, 1, 2, 3, 4, 5, 6] rfl) | ((repeat rw [if_neg h_10] at hl); (repeat rw [if_neg h_10]); exact hJ ls (lv_sub hl [0, 1, 2, 3, 4, 5, 6] rfl))
                  · refine lv_iload_n hx hb dX6_from_106 rfl (lv_at hl 3 rfl) ?_
                    refine bz_eq (tgt := 125) hx hb dX6_from_107 (by decide) (fun h_11 => ?_) (fun h_11 => ?_)
                    · refine lv_iconst (v := 1) hx hb dX6_from_125 (by decide) ?_
                      refine lv_goto (tgt := 130) hx hb dX6_from_126 (by decide) ?_
                      have hJ := J_9; (repeat rw [if_pos h_10] at hJ); (repeat rw [if_neg h_11] at hJ)
                      first | exact hJ ls (lv_sub hl [0, 1, 2, 3, 4, 5, 6] rfl) | ((repeat rw [if_pos h_10] at hl); (repeat rw [if_neg h_11] at hl); (repeat rw [if_pos h_10]); (repeat rw [if_neg h_11]); exact hJ ls (lv_sub hl [0, 1, 2, 3, 4, 5, 6] rfl))
                    · refine lv_aload_n hx hb dX6_from_110 rfl (lv_at hl 1 rfl) ?_
                      refine r_get (C := RX6) (T := TX6) (N := 18) hx hb hts i_X6_from_X6 hown hK hB.1 rfl 1 (by decide) k_X6_from_fieldLink_9 rfl rfl dX6_from_111 ?_
                      refine lv_sipush (v := 402) hx hb dX6_from_114 (by decide +kernel) ?_
                      refine lv_iload hx hb dX6_from_117 (lv_at hl 6 rfl) ?_
                      refine lv_iadd hx hb dX6_from_119 ?_
                      refine r_iald hx hb hK hB.2.1 (vp_ib (lo := 402) (hi := 441) (ib_add (ib_nI (n := 402) (by decide)) (ib_ltc hC2 (by omega) (by decide)) (by decide) (by decide)) (by decide) (by decide)) dX6_from_120 ?_
                      refine lv_iconst (v := 1) hx hb dX6_from_121 (by decide) ?_
                      refine lv_icmp_ne (tgt := 129) hx hb dX6_from_122 (by decide) (fun h_12 => ?_) (fun h_12 => ?_)
                      · refine lv_iconst (v := 0) hx hb dX6_from_129 (by decide) ?_
                        have hJ := J_9; (repeat rw [if_pos h_10] at hJ); (repeat rw [if_pos h_11] at hJ); (repeat rw [if_neg h_12] at hJ)
                        first | exact hJ ls (lv_sub hl [0, 1, 2, 3, 4, 5, 6] rfl) | ((repeat rw [if_pos h_10] at hl); (repeat rw [if_pos h_11] at hl); (repeat rw [if_neg h_12] at hl); (repeat rw [if_pos h_10]); (repeat rw [if_pos h_11]); (repeat rw [if_neg h_12]); exact hJ ls (lv_sub hl [0, 1, 2, 3, 4, 5, 6] rfl))
                      · refine lv_iconst (v := 1) hx hb dX6_from_125 (by decide) ?_
                        refine lv_goto (tgt := 130) hx hb dX6_from_126 (by decide) ?_
                        have hJ := J_9; (repeat rw [if_pos h_10] at hJ); (repeat rw [if_pos h_11] at hJ); (repeat rw [if_pos h_12] at hJ)
                        first | exact hJ ls (lv_sub hl [0, 1, 2, 3, 4, 5, 6] rfl) | ((repeat rw [if_pos h_10] at hl); (repeat rw [if_pos h_11] at hl); (repeat rw [if_pos h_12] at hl); (repeat rw [if_pos h_10]); (repeat rw [if_pos h_11]); (repeat rw [if_pos h_12]); exact hJ ls (lv_sub hl [0, 1, 2, 3, 4, 5, 6] rfl))
  · refine lv_iconst (v := (-1)) hx hb dX6_from_7 (by decide) ?_
    exact ro_iret hx hb hr hlocks dX6_from_8 (by (try unfold r_from); (repeat rw [if_neg h_1]); first | done | rfl)
theorem i_X6_spread_X6 : ∀ w ∈ wsX60, w ∈ wsX6_spread := fun _ h => List.mem_cons_of_mem _ (List.mem_append_right _ h)
theorem k_X6_spread_fieldLink_9 : Cond.fieldLink RX6 9 "SameWaterModel" "s" "[I" ∈ wsX6_spread := by decide +kernel
def r_spreadIt_st (x : MT) (law child nn : Int32) (k : Nat) (tg : Bool) (set9 : Int32) : Bool × Int32 := ((if tg = true then true else if ((mS x) ((138 + (4 * child)) + (nI k)).toNatClampNeg) = (-1) then false else true), set9 ||| (if (r_isKept x law child (nI k) (((mS x) (130 + child).toNatClampNeg) + nn)) = true then (1 : Int32) <<< ((nI k) &&& 31) else 0))
def r_spreadIt (x : MT) (law child nn : Int32) (tg0 : Bool) (set90 : Int32) : Nat → Bool × Int32
  | 0 => (tg0, set90)
  | k + 1 => r_spreadIt_st x law child nn k ((r_spreadIt x law child nn tg0 set90 k).1) ((r_spreadIt x law child nn tg0 set90 k).2)
def r_spread (x : MT) (law : Int32) (child : Int32) (nn : Int32) : Int32 := if (r_isLaw x law) = true then if (r_isChild x child) = true then if (r_in nn 0 99) = true then if ((r_spreadIt x law child nn false 0 4).1) = true then (r_spreadIt x law child nn false 0 4).2 else (-3) else (-2) else (-1) else (-1)
set_option maxHeartbeats 4000000 in
set_option maxRecDepth 100000 in
theorem c_X6_spread (l : Launch) (G : GG) (M : Nat → Nat) (x : MT) (law : Int32) (child : Int32) (nn : Int32)  (hI : mI (mS x)) (hO : mO (mS x)) : Met l yX6_spread wsX6_spread { frames := 2, cells := 0, slots := 0, locals := 43 } (roP G [.ref (M 0), .int law, .int child, .int nn] (fun H => MAt G M x H)) (roQ (some (.int (r_spread x law child nn)))) 0 0 nF := by
  refine Met.ofW (cc := cX6_spread) (maxL := 7) (ret := (some .int)) (by decide) rfl ?_
  intro p e s m args below meth c s₁ Bd hml hv
  obtain ⟨rfl, hK, hB⟩ := hv
  have hx := Bd.exec
  have hb := Bd.bytes
  have hr := Bd.returns
  have hts := atoms_spec (ws := wsX6_spread) Bd.pre
  have hown : s.vm.findClass RX6 = some m.cls := findClass_of_methodNamed Bd.named
  have hlocks := Bd.notSynchronized
  have hC : CallFix p m c cX6_spread 7 s _ wsX6_spread RX6 := ⟨hx, hb, hml, hown, hts⟩
  have hl := lv_entry ([.ref (M 0), .int law, .int child, .int nn]) (n := 7) (Nat.le_of_ble_eq_true rfl)
  rw [lg_entry_eq]
  generalize (lg_sl ([.ref (M 0), .int law, .int child, .int nn]) ++ List.replicate (7 - (lg_sl ([.ref (M 0), .int law, .int child, .int nn])).length) Slot.unset).toArray = ls at hl ⊢
  have hl : lv_has ls 7 [(0, .ref (M 0)), (1, .int law), (2, .int child), (3, .int nn)] := hl
  refine lv_aload_n hx hb dX6_spread_0 rfl (lv_at hl 0 rfl) ?_
  refine lv_iload_n hx hb dX6_spread_1 rfl (lv_at hl 1 rfl) ?_
  refine ro_call (va_runV (As := [.int law]) (rest := []) hC (c_X6_isLaw l G M x law) (cwV 1 hts gX6_spread_X6_isLaw rfl rfl rfl kd_X6_isLaw ⟨Nat.le_of_ble_eq_true rfl, Nat.le_of_ble_eq_true rfl⟩) (ro_preV hK hB.1 rfl hB) rfl rfl hl.1 rfl (lv_room (Nat.le_of_ble_eq_true rfl)) dX6_spread_2 ⟨Nat.zero_le _, Nat.zero_le _⟩) ?_
  refine bz_eq (tgt := 16) hx hb dX6_spread_5 (by decide) (fun h_1 => ?_) (fun h_1 => ?_)
  · refine lv_iconst (v := (-1)) hx hb dX6_spread_16 (by decide) ?_
    exact ro_iret hx hb hr hlocks dX6_spread_17 (by (try unfold r_spread); (repeat rw [if_neg h_1]); first | done | rfl)
  · refine lv_aload_n hx hb dX6_spread_8 rfl (lv_at hl 0 rfl) ?_
    refine lv_iload_n hx hb dX6_spread_9 rfl (lv_at hl 2 rfl) ?_
    refine ro_call (va_runV (As := [.int child]) (rest := []) hC (c_X6_isChild l G M x child) (cwV 1 hts gX6_spread_X6_isChild rfl rfl rfl kd_X6_isChild ⟨Nat.le_of_ble_eq_true rfl, Nat.le_of_ble_eq_true rfl⟩) (ro_preV hK hB.1 rfl hB) rfl rfl hl.1 rfl (lv_room (Nat.le_of_ble_eq_true rfl)) dX6_spread_10 ⟨Nat.zero_le _, Nat.zero_le _⟩) ?_
    refine bz_ne (tgt := 18) hx hb dX6_spread_13 (by decide) (fun h_2 => ?_) (fun h_2 => ?_)
    · refine lv_iload_n hx hb dX6_spread_18 rfl (lv_at hl 3 rfl) ?_
      refine lv_iconst (v := 0) hx hb dX6_spread_19 (by decide) ?_
      refine lv_bipush (v := 99) hx hb dX6_spread_20 (by decide +kernel) ?_
      refine ro_call (va_runS (As := [.int nn, .int 0, .int 99]) (rest := []) hC (c_X6_in l G nn 0 99) (va_cwS 3 hts gX6_spread_X6_in rfl rfl rfl kd_X6_in ⟨Nat.le_of_ble_eq_true rfl, Nat.le_of_ble_eq_true rfl⟩) (ro_preS hK trivial) rfl rfl hl.1 rfl (lv_room (Nat.le_of_ble_eq_true rfl)) dX6_spread_22 ⟨Nat.zero_le _, Nat.zero_le _⟩) ?_
      refine bz_ne (tgt := 31) hx hb dX6_spread_25 (by decide) (fun h_3 => ?_) (fun h_3 => ?_)
      · refine lv_iconst (v := 0) hx hb dX6_spread_31 (by decide) ?_
        refine lv_istore (lv' := [(4, .int 0), (0, .ref (M 0)), (1, .int law), (2, .int child), (3, .int nn)]) hx hb dX6_spread_32 hl (by decide) rfl (fun ls hl => ?_)
        refine lv_iconst (v := 0) hx hb dX6_spread_34 (by decide) ?_
        refine lv_istore (lv' := [(5, .int 0), (4, .int 0), (0, .ref (M 0)), (1, .int law), (2, .int child), (3, .int nn)]) hx hb dX6_spread_35 hl (by decide) rfl (fun ls hl => ?_)
        refine lv_iconst (v := 0) hx hb dX6_spread_37 (by decide) ?_
        refine lv_istore (lv' := [(6, .int 0), (5, .int 0), (4, .int 0), (0, .ref (M 0)), (1, .int law), (2, .int child), (3, .int nn)]) hx hb dX6_spread_38 hl (by decide) rfl (fun ls hl => ?_)
        refine loop_at (nL := 7) (fun k : Nat => [(0, .ref (M 0)), (1, .int law), (2, .int child), (3, .int nn), (4, .int (b2i ((r_spreadIt x law child nn false 0 k).1))), (5, .int ((r_spreadIt x law child nn false 0 k).2)), (6, .int (nI k))]) (fun k => k ≤ 4) (fun k => 4 - k) 0 (Nat.zero_le _) (lv_sub hl [3, 4, 5, 6, 2, 1, 0] rfl) (fun k hk_k ih_k ls hl => ?_)
        have hl : lv_has ls 7 [(0, .ref (M 0)), (1, .int law), (2, .int child), (3, .int nn), (4, .int (b2i ((r_spreadIt x law child nn false 0 k).1))), (5, .int ((r_spreadIt x law child nn false 0 k).2)), (6, .int (nI k))] := hl
        refine lv_iload hx hb dX6_spread_40 (lv_at hl 6 rfl) ?_
        refine lv_iconst (v := 4) hx hb dX6_spread_42 (by decide) ?_
        refine lv_icmp_ge (tgt := 119) hx hb dX6_spread_43 (by decide) (fun h_4 => ?_) (fun h_4 => ?_)
        · have hN_k : k = 4 := ge_ex (N := 4) rfl h_4 hk_k (by omega)
          subst hN_k
          refine lv_iload hx hb dX6_spread_119 (lv_at hl 4 rfl) ?_
          refine join_at (nL := 7) 131 [(0, .ref (M 0)), (1, .int law), (2, .int child), (3, .int nn), (4, .int (b2i ((r_spreadIt x law child nn false 0 4).1))), (5, .int ((r_spreadIt x law child nn false 0 4).2)), (6, .int (nI 4))] [.int (if ((r_spreadIt x law child nn false 0 4).1) = true then (r_spreadIt x law child nn false 0 4).2 else (-3))] (fun ls hl => ?_) (fun J_5 => ?_)
          · exact ro_iret hx hb hr hlocks dX6_spread_131 (by (try unfold r_spread); (repeat rw [if_pos h_1]); (repeat rw [if_pos h_2]); (repeat rw [if_pos h_3]); first | done | rfl)
          · refine bz_eq (tgt := 129) hx hb dX6_spread_121 (by decide) (fun h_6 => ?_) (fun h_6 => ?_)
            · refine lv_bipush (v := (-3)) hx hb dX6_spread_129 (by decide +kernel) ?_
              have hJ := J_5; (repeat rw [if_neg h_6] at hJ)
              first | exact hJ ls (lv_sub hl [0, 1, 2, 3, 4, 5, 6] rfl) | ((repeat rw [if_neg h_6] at hl); (repeat rw [if_neg h_6]); exact hJ ls (lv_sub hl [0, 1, 2, 3, 4, 5, 6] rfl))
            · refine lv_iload hx hb dX6_spread_124 (lv_at hl 5 rfl) ?_
              refine lv_goto (tgt := 131) hx hb dX6_spread_126 (by decide) ?_
              have hJ := J_5; (repeat rw [if_pos h_6] at hJ)
              first | exact hJ ls (lv_sub hl [0, 1, 2, 3, 4, 5, 6] rfl) | ((repeat rw [if_pos h_6] at hl); (repeat rw [if_pos h_6]); exact hJ ls (lv_sub hl [0, 1, 2, 3, 4, 5, 6] rfl))
        · have hlt_k : k < 4 := ge_in (N := 4) rfl h_4 hk_k (by omega)
          refine lv_iload hx hb dX6_spread_46 (lv_at hl 4 rfl) ?_
          refine join_at (nL := 7) 75 [(0, .ref (M 0)), (1, .int law), (2, .int child), (3, .int nn), (4, .int (b2i ((r_spreadIt x law child nn false 0 k).1))), (5, .int ((r_spreadIt x law child nn false 0 k).2)), (6, .int (nI k))] [.int (b2i (if ((r_spreadIt x law child nn false 0 k).1) = true then true else if ((mS x) ((138 + (4 * child)) + (nI k)).toNatClampNeg) = (-1) then false else true))] (fun ls hl => ?_) (fun J_7 => ?_)
          · refine lv_istore (lv' := [(4, .int (b2i (if ((r_spreadIt x law child nn false 0 k).1) = true then true else if ((mS x) ((138 + (4 * child)) + (nI k)).toNatClampNeg) = (-1) then false else true))), (0, .ref (M 0)), (1, .int law), (2, .int child), (3, .int nn), (5, .int ((r_spreadIt x law child nn false 0 k).2)), (6, .int (nI k))]) hx hb dX6_spread_75 hl (by decide) rfl (fun ls hl => ?_)
            refine lv_iload hx hb dX6_spread_77 (lv_at hl 5 rfl) ?_
            refine lv_aload_n hx hb dX6_spread_79 rfl (lv_at hl 1 rfl) ?_
            refine lv_iload_n hx hb dX6_spread_80 rfl (lv_at hl 2 rfl) ?_
            refine lv_iload_n hx hb dX6_spread_81 rfl (lv_at hl 3 rfl) ?_
            refine lv_iload hx hb dX6_spread_82 (lv_at hl 6 rfl) ?_
            refine lv_aload_n hx hb dX6_spread_84 rfl (lv_at hl 1 rfl) ?_
            refine r_get (C := RX6) (T := TX6) (N := 18) hx hb hts i_X6_spread_X6 hown hK hB.1 rfl 1 (by decide) k_X6_spread_fieldLink_9 rfl rfl dX6_spread_85 ?_
            refine lv_sipush (v := 130) hx hb dX6_spread_88 (by decide +kernel) ?_
            refine lv_iload_n hx hb dX6_spread_91 rfl (lv_at hl 3 rfl) ?_
            refine lv_iadd hx hb dX6_spread_92 ?_
            refine r_iald hx hb hK hB.2.1 (vp_ib (lo := 130) (hi := 137) (ib_add (ib_nI (n := 130) (by decide)) (isChild_ib hI h_2) (by decide) (by decide)) (by decide) (by decide)) dX6_spread_93 ?_
            refine lv_iload_n hx hb dX6_spread_94 rfl (lv_at hl 4 rfl) ?_
            refine lv_iadd hx hb dX6_spread_95 ?_
            refine ro_call (va_runV (As := [.int law, .int child, .int (nI k), .int (((mS x) (130 + child).toNatClampNeg) + nn)]) (rest := [.int ((r_spreadIt x law child nn false 0 k).2)]) hC (c_X6_isKept l G M x law child (nI k) (((mS x) (130 + child).toNatClampNeg) + nn) hI hO (ib.weak (isLaw_ib hI h_1) (by decide) (by decide)) (ib.weak (isChild_ib hI h_2) (by decide) (by decide)) (ib.weak (ib_lt (n := 4) (by omega) (by decide)) (by decide) (by decide))) (cwV 4 hts gX6_spread_X6_isKept rfl rfl rfl kd_X6_isKept ⟨Nat.le_of_ble_eq_true rfl, Nat.le_of_ble_eq_true rfl⟩) (ro_preV hK hB.1 rfl hB) rfl rfl hl.1 rfl (lv_room (Nat.le_of_ble_eq_true rfl)) dX6_spread_96 ⟨Nat.zero_le _, Nat.zero_le _⟩) ?_
            refine join_at (nL := 7) 110 [(4, .int (b2i (if ((r_spreadIt x law child nn false 0 k).1) = true then true else if ((mS x) ((138 + (4 * child)) + (nI k)).toNatClampNeg) = (-1) then false else true))), (0, .ref (M 0)), (1, .int law), (2, .int child), (3, .int nn), (5, .int ((r_spreadIt x law child nn false 0 k).2)), (6, .int (nI k))] [.int (if (r_isKept x law child (nI k) (((mS x) (130 + child).toNatClampNeg) + nn)) = true then (1 : Int32) <<< ((nI k) &&& 31) else 0), .int ((r_spreadIt x law child nn false 0 k).2)] (fun ls hl => ?_) (fun J_8 => ?_)
            · refine lv_ior hx hb dX6_spread_110 ?_
              refine lv_istore (lv' := [(5, .int (((r_spreadIt x law child nn false 0 k).2) ||| (if (r_isKept x law child (nI k) (((mS x) (130 + child).toNatClampNeg) + nn)) = true then (1 : Int32) <<< ((nI k) &&& 31) else 0))), (4, .int (b2i (if ((r_spreadIt x law child nn false 0 k).1) = true then true else if ((mS x) ((138 + (4 * child)) + (nI k)).toNatClampNeg) = (-1) then false else true))), (0, .ref (M 0)), (1, .int law), (2, .int child), (3, .int nn), (6, .int (nI k))]) hx hb dX6_spread_111 hl (by decide) rfl (fun ls hl => ?_)
              refine lv_iinc (v := (nI k) + 1) (lv' := [(6, .int ((nI k) + 1)), (5, .int (((r_spreadIt x law child nn false 0 k).2) ||| (if (r_isKept x law child (nI k) (((mS x) (130 + child).toNatClampNeg) + nn)) = true then (1 : Int32) <<< ((nI k) &&& 31) else 0))), (4, .int (b2i (if ((r_spreadIt x law child nn false 0 k).1) = true then true else if ((mS x) ((138 + (4 * child)) + (nI k)).toNatClampNeg) = (-1) then false else true))), (0, .ref (M 0)), (1, .int law), (2, .int child), (3, .int nn)]) hx hb dX6_spread_113 hl (k := 6) rfl rfl (by decide) rfl (fun ls hl => ?_)
              refine lv_goto (tgt := 40) hx hb dX6_spread_116 (by decide) ?_
              have hE : (r_spreadIt x law child nn false 0 (k + 1)) = ((if ((r_spreadIt x law child nn false 0 k).1) = true then true else if ((mS x) ((138 + (4 * child)) + (nI k)).toNatClampNeg) = (-1) then false else true), ((r_spreadIt x law child nn false 0 k).2) ||| (if (r_isKept x law child (nI k) (((mS x) (130 + child).toNatClampNeg) + nn)) = true then (1 : Int32) <<< ((nI k) &&& 31) else 0)) := (by show r_spreadIt_st x law child nn k ((r_spreadIt x law child nn false 0 k).1) ((r_spreadIt x law child nn false 0 k).2) = _; (try unfold r_spreadIt_st); first | done | rfl)
              refine ih_k (k + 1) (show k + 1 ≤ 4 by omega) (by omega) ls ?_
              show lv_has ls 7 [(0, .ref (M 0)), (1, .int law), (2, .int child), (3, .int nn), (4, .int (b2i ((r_spreadIt x law child nn false 0 (k + 1)).1))), (5, .int ((r_spreadIt x law child nn false 0 (k + 1)).2)), (6, .int (nI (k + 1)))]
              rw [nI_succ, hE]
              exact lv_sub hl [3, 4, 5, 6, 2, 1, 0] rfl
            · refine bz_eq (tgt := 109) hx hb dX6_spread_99 (by decide) (fun h_9 => ?_) (fun h_9 => ?_)
              · refine lv_iconst (v := 0) hx hb dX6_spread_109 (by decide) ?_
                have hJ := J_8; (repeat rw [if_neg h_9] at hJ)
                first | exact hJ ls (lv_sub hl [0, 1, 2, 3, 4, 5, 6] rfl) | ((repeat rw [if_neg h_9] at hl); (repeat rw [if_neg h_9]); exact hJ ls (lv_sub hl [0, 1, 2, 3, 4, 5, 6] rfl))
              · refine lv_iconst (v := 1) hx hb dX6_spread_102 (by decide) ?_
                refine lv_iload hx hb dX6_spread_103 (lv_at hl 6 rfl) ?_
                refine lv_ishl hx hb dX6_spread_105 ?_
                refine lv_goto (tgt := 110) hx hb dX6_spread_106 (by decide) ?_
                have hJ := J_8; (repeat rw [if_pos h_9] at hJ)
                first | exact hJ ls (lv_sub hl [0, 1, 2, 3, 4, 5, 6] rfl) | ((repeat rw [if_pos h_9] at hl); (repeat rw [if_pos h_9]); exact hJ ls (lv_sub hl [0, 1, 2, 3, 4, 5, 6] rfl))
          · refine bz_ne (tgt := 70) hx hb dX6_spread_48 (by decide) (fun h_10 => ?_) (fun h_10 => ?_)
            · refine lv_iconst (v := 1) hx hb dX6_spread_70 (by decide) ?_
              refine lv_goto (tgt := 75) hx hb dX6_spread_71 (by decide) ?_
              have hJ := J_7; (repeat rw [if_pos h_10] at hJ)
              first | exact hJ ls (lv_sub hl [0, 1, 2, 3, 4, 5, 6] rfl) | ((repeat rw [if_pos h_10] at hl); (repeat rw [if_pos h_10]); exact hJ ls (lv_sub hl [0, 1, 2, 3, 4, 5, 6] rfl))
            · refine lv_aload_n hx hb dX6_spread_51 rfl (lv_at hl 0 rfl) ?_
              refine r_get (C := RX6) (T := TX6) (N := 18) hx hb hts i_X6_spread_X6 hown hK hB.1 rfl 1 (by decide) k_X6_spread_fieldLink_9 rfl rfl dX6_spread_52 ?_
              refine lv_sipush (v := 138) hx hb dX6_spread_55 (by decide +kernel) ?_
              refine lv_iconst (v := 4) hx hb dX6_spread_58 (by decide) ?_
              refine lv_iload_n hx hb dX6_spread_59 rfl (lv_at hl 2 rfl) ?_
              refine lv_imul hx hb dX6_spread_60 ?_
              refine lv_iadd hx hb dX6_spread_61 ?_
              refine lv_iload hx hb dX6_spread_62 (lv_at hl 6 rfl) ?_
              refine lv_iadd hx hb dX6_spread_64 ?_
              refine r_iald hx hb hK hB.2.1 (vp_ib (lo := 138) (hi := 169) (ib_add (ib_add (ib_nI (n := 138) (by decide)) (ib_mulk (k := 4) (isChild_ib hI h_2) (by decide) (by decide) (by decide)) (by decide) (by decide)) (ib_lt (n := 4) (by omega) (by decide)) (by decide) (by decide)) (by decide) (by decide)) dX6_spread_65 ?_
              refine lv_iconst (v := (-1)) hx hb dX6_spread_66 (by decide) ?_
              refine lv_icmp_eq (tgt := 74) hx hb dX6_spread_67 (by decide) (fun h_11 => ?_) (fun h_11 => ?_)
              · refine lv_iconst (v := 0) hx hb dX6_spread_74 (by decide) ?_
                have hJ := J_7; (repeat rw [if_neg h_10] at hJ); (repeat rw [if_pos h_11] at hJ)
                first | exact hJ ls (lv_sub hl [0, 1, 2, 3, 4, 5, 6] rfl) | ((repeat rw [if_neg h_10] at hl); (repeat rw [if_pos h_11] at hl); (repeat rw [if_neg h_10]); (repeat rw [if_pos h_11]); exact hJ ls (lv_sub hl [0, 1, 2, 3, 4, 5, 6] rfl))
              · refine lv_iconst (v := 1) hx hb dX6_spread_70 (by decide) ?_
                refine lv_goto (tgt := 75) hx hb dX6_spread_71 (by decide) ?_
                have hJ := J_7; (repeat rw [if_neg h_10] at hJ); (repeat rw [if_neg h_11] at hJ)
                first | exact hJ ls (lv_sub hl [0, 1, 2, 3, 4, 5, 6] rfl) | ((repeat rw [if_neg h_10] at hl); (repeat rw [if_neg h_11] at hl); (repeat rw [if_neg h_10]); (repeat rw [if_neg h_11]); exact hJ ls (lv_sub hl [0, 1, 2, 3, 4, 5, 6] rfl))
      · refine lv_bipush (v := (-2)) hx hb dX6_spread_28 (by decide +kernel) ?_
        exact ro_iret hx hb hr hlocks dX6_spread_30 (by (try unfold r_spread); (repeat rw [if_pos h_1]); (repeat rw [if_pos h_2]); (repeat rw [if_neg h_3]); first | done | rfl)
    · refine lv_iconst (v := (-1)) hx hb dX6_spread_16 (by decide) ?_
      exact ro_iret hx hb hr hlocks dX6_spread_17 (by (try unfold r_spread); (repeat rw [if_pos h_1]); (repeat rw [if_neg h_2]); first | done | rfl)

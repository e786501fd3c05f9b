abbrev mCt (x : MT) (al sa : Int64) : MT := mSetSa (mSetAl x al) sa
def m0 (M : Nat → Nat) : Nat → Prop := fun q => q = M 0
theorem MAt.put0 {G : GG} {M : Nat → Nat} {x y : MT} {fs : List Value} {H H1 : Heap} (h : MAt G M x H) (hN : mN M) (hn : oA G (M 0) 6 fs H1) (hq : ∀ q : Nat, q ≠ M 0 → H1[q]? = H[q]?) (e1 : mS y = mS x) (e2 : mIm y = mIm x) (e3 : mBo y = mBo x) (ef : fs = [.int (mTh y), .ref (M 1), .ref (M 2), .int (b2i (mHi y)), .int (mAc y), .int (mSp y), .int (mEn y), .int (b2i (mWr y)), .int (mOp y), .ref (M 3), .ref (M 4), .long (mAl y), .long (mSa y), .ref (M 5), .int (mRa y), .int (mKi y), .int (mNu y), .int (mTv y)]) : MAt G M y H1 := by
  obtain ⟨h0, h1, h2, ⟨f, h3⟩, ⟨g, h4⟩, h5⟩ := h
  have k : ∀ j, j < 6 → j ≠ 0 → H1[M j]? = H[M j]? := fun j a b => hq _ (hN j 0 a (by decide) b)
  subst ef
  exact ⟨hn, by rw [e1]; exact h1.kept (k 1 (by decide) (by decide)), by rw [e2]; exact h2.kept (k 2 (by decide) (by decide)), ⟨f, h3.kept (k 3 (by decide) (by decide))⟩, ⟨g, h4.kept (k 4 (by decide) (by decide))⟩, by rw [e3]; exact h5.kept (k 5 (by decide) (by decide))⟩
theorem i_X6_counts_X6 : ∀ w ∈ wsX60, w ∈ wsX6_counts := fun _ h => List.mem_cons_of_mem _ (List.mem_append_right _ h)
theorem k_X6_counts_fieldLink_204 : Cond.fieldLink RX6 204 "SameWaterModel" "all" "J" ∈ wsX6_counts := by decide +kernel
theorem k_X6_counts_fieldLink_208 : Cond.fieldLink RX6 208 "SameWaterModel" "same" "J" ∈ wsX6_counts := by decide +kernel
theorem k_X6_counts_fieldLink_9 : Cond.fieldLink RX6 9 "SameWaterModel" "s" "[I" ∈ wsX6_counts := by decide +kernel
def r_countsGo (x : MT) (mv ti : Int32) : Nat → Nat → Int64 → Int64 → Int64 × Int64
  | 0, _, Al_k, Sa_k => ((if (lg_cmp Al_k 0) = 0 then 1 else Al_k), Sa_k)
  | n + 1, k, Al_k, Sa_k => if (r_isUnchanged x (nI k)) = true then if ((mS x) (186 + ((mS x) (322 + (nI k)).toNatClampNeg)).toNatClampNeg) = mv then if ti = 0 then r_countsGo x mv ti n (k + 1) (Al_k + 1) (Sa_k + (if ((mS x) (362 + (nI k)).toNatClampNeg) = 1 then 1 else 0)) else if ((mS x) (202 + ((mS x) (322 + (nI k)).toNatClampNeg)).toNatClampNeg) = ti then r_countsGo x mv ti n (k + 1) (Al_k + 1) (Sa_k + (if ((mS x) (362 + (nI k)).toNatClampNeg) = 1 then 1 else 0)) else r_countsGo x mv ti n (k + 1) Al_k Sa_k else r_countsGo x mv ti n (k + 1) Al_k Sa_k else r_countsGo x mv ti n (k + 1) Al_k Sa_k
theorem r_countsGo_0 (x : MT) (mv ti : Int32) (k : Nat) (Al_k : Int64) (Sa_k : Int64) : r_countsGo x mv ti 0 k Al_k Sa_k = (((if (lg_cmp Al_k 0) = 0 then 1 else Al_k), Sa_k)) := rfl
theorem r_countsGo_s (x : MT) (mv ti : Int32) (n k : Nat) (Al_k : Int64) (Sa_k : Int64) : r_countsGo x mv ti (n + 1) k Al_k Sa_k = (if (r_isUnchanged x (nI k)) = true then if ((mS x) (186 + ((mS x) (322 + (nI k)).toNatClampNeg)).toNatClampNeg) = mv then if ti = 0 then r_countsGo x mv ti n (k + 1) (Al_k + 1) (Sa_k + (if ((mS x) (362 + (nI k)).toNatClampNeg) = 1 then 1 else 0)) else if ((mS x) (202 + ((mS x) (322 + (nI k)).toNatClampNeg)).toNatClampNeg) = ti then r_countsGo x mv ti n (k + 1) (Al_k + 1) (Sa_k + (if ((mS x) (362 + (nI k)).toNatClampNeg) = 1 then 1 else 0)) else r_countsGo x mv ti n (k + 1) Al_k Sa_k else r_countsGo x mv ti n (k + 1) Al_k Sa_k else r_countsGo x mv ti n (k + 1) Al_k Sa_k) := rfl
def r_counts (x : MT) (mv ti : Int32) : Int64 × Int64 := r_countsGo x mv ti (((mS x) (2 : Int32).toNatClampNeg).toNatClampNeg) 0 (0) (0)
set_option maxHeartbeats 4000000 in
set_option maxRecDepth 100000 in
theorem c_X6_counts (l : Launch) (G : GG) (M : Nat → Nat) (x : MT) (Al Sa : Int64) (mv ti : Int32)  (hI : mI (mS x)) (hO : mO (mS x)) (hMW : mW (mS x)) (hN : mN M) : Met l yX6_counts wsX6_counts { frames := 1, cells := 0, slots := 0, locals := 21 } (roP G [.ref (M 0), .int mv, .int ti] (fun H => MAt G M (mCt x Al Sa) H)) (wrQ none (fun H => MAt G M (mCt x ((r_counts x mv ti).1) ((r_counts x mv ti).2)) H) (m0 M)) 0 0 (m0 M) := by
  refine Met.ofW (cc := cX6_counts) (maxL := 5) (ret := none) (by decide) rfl ?_
  intro p e s m args below meth c s₁ Bd hml hv
  obtain ⟨rfl, hK, hB⟩ := hv
  have hx := Bd.exec
  have hb := Bd.bytes
  have hr := Bd.returns
  have hts := atoms_spec (ws := wsX6_counts) Bd.pre
  have hown : s.vm.findClass RX6 = some m.cls := findClass_of_methodNamed Bd.named
  have hlocks := Bd.notSynchronized
  have hC : CallFix p m c cX6_counts 5 s _ wsX6_counts RX6 := ⟨hx, hb, hml, hown, hts⟩
  have hl := lv_entry ([.ref (M 0), .int mv, .int ti]) (n := 5) (Nat.le_of_ble_eq_true rfl)
  rw [lg_entry_eq]
  generalize (lg_sl ([.ref (M 0), .int mv, .int ti]) ++ List.replicate (5 - (lg_sl ([.ref (M 0), .int mv, .int ti])).length) Slot.unset).toArray = ls at hl ⊢
  have hl : lv_has ls 5 [(0, .ref (M 0)), (1, .int mv), (2, .int ti)] := hl
  have hS : wS (m0 M) s.heap s.heap [] := wS.rf
  have f_s := hB
  have hZ := trivial
  have hC2 : ib 0 40 ((mS x) (2 : Int32).toNatClampNeg) := hI 2 (2, 2, 0, 40) (by decide) (Nat.le_refl _) (Nat.le_refl _)
  have hD2 : ((mS x) (2 : Int32).toNatClampNeg).toNatClampNeg ≤ 40 := by have := (hC2.clamp (by decide)).2; omega
  refine lv_aload_n hx hb dX6_counts_0 rfl (lv_at hl 0 rfl) ?_
  refine lv_lconst (v := 0) hx hb dX6_counts_1 (by decide) ?_
  refine w_put (C := RX6) (T := TX6) (N := 18) hx hb hts i_X6_counts_X6 tyX6 tyX6_ok nmX6 hown hK f_s.1 hS rfl rfl 11 (by decide) k_X6_counts_fieldLink_204 rfl rfl rfl rfl (Nat.le_of_ble_eq_true rfl) dX6_counts_2 (fun H locs hn hq hS => ?_)
  have f_s : MAt G M (mCt x (0) Sa) H := f_s.put0 hN hn hq rfl rfl rfl rfl
  refine lv_aload_n hx hb dX6_counts_5 rfl (lv_at hl 0 rfl) ?_
  refine lv_lconst (v := 0) hx hb dX6_counts_6 (by decide) ?_
  refine w_put (C := RX6) (T := TX6) (N := 18) hx hb hts i_X6_counts_X6 tyX6 tyX6_ok nmX6 hown hK f_s.1 hS rfl rfl 12 (by decide) k_X6_counts_fieldLink_208 rfl rfl rfl rfl (Nat.le_of_ble_eq_true rfl) dX6_counts_7 (fun H locs hn hq hS => ?_)
  have f_s : MAt G M (mCt x (0) (0)) H := f_s.put0 hN hn hq rfl rfl rfl rfl
  refine lv_iconst (v := 0) hx hb dX6_counts_10 (by decide) ?_
  refine lv_istore_n (lv' := [(3, .int 0), (0, .ref (M 0)), (1, .int mv), (2, .int ti)]) hx hb dX6_counts_11 rfl hl (by decide) rfl (fun ls hl => ?_)
  refine loop_wr (nL := 5) (α := Nat × Int64 × Int64) (fun a9 => [(0, .ref (M 0)), (1, .int mv), (2, .int ti), (3, .int (nI (a9.1)))]) (fun a9 H locs => (a9.1 ≤ ((mS x) (2 : Int32).toNatClampNeg).toNatClampNeg ∧ r_countsGo x mv ti ((((mS x) (2 : Int32).toNatClampNeg).toNatClampNeg) - a9.1) a9.1 a9.2.1 a9.2.2 = r_countsGo x mv ti (((mS x) (2 : Int32).toNatClampNeg).toNatClampNeg) 0 (0) (0)) ∧ (MAt G M (mCt x (a9.2.1) (a9.2.2)) H) ∧ wS (m0 M) s.heap H locs ∧ True) (fun a9 => ((mS x) (2 : Int32).toNatClampNeg).toNatClampNeg - a9.1) (0, (0), (0)) ⟨⟨(by first | exact Nat.zero_le _ | decide | omega), rfl⟩, f_s, hS, hZ⟩ (lv_sub hl [1, 2, 3, 0] rfl) (fun a9 H locs hI9 ih_k ls hl => ?_)
  obtain ⟨k, Al_k, Sa_k⟩ := a9
  obtain ⟨hI9, f_s, hS, hZ⟩ := hI9
  have f_s : MAt G M (mCt x Al_k Sa_k) H := f_s
  obtain ⟨hk_k, hV⟩ : k ≤ ((mS x) (2 : Int32).toNatClampNeg).toNatClampNeg ∧ r_countsGo x mv ti ((((mS x) (2 : Int32).toNatClampNeg).toNatClampNeg) - k) k Al_k Sa_k = r_countsGo x mv ti (((mS x) (2 : Int32).toNatClampNeg).toNatClampNeg) 0 (0) (0) := hI9
  have hl : lv_has ls 5 [(0, .ref (M 0)), (1, .int mv), (2, .int ti), (3, .int (nI k))] := hl
  refine lv_iload_n hx hb dX6_counts_12 rfl (lv_at hl 3 rfl) ?_
  refine lv_aload_n hx hb dX6_counts_13 rfl (lv_at hl 0 rfl) ?_
  refine r_get (C := RX6) (T := TX6) (N := 18) hx hb hts i_X6_counts_X6 hown hK f_s.1 rfl 1 (by decide) k_X6_counts_fieldLink_9 rfl rfl dX6_counts_14 ?_
  refine lv_iconst (v := 2) hx hb dX6_counts_17 (by decide) ?_
  refine r_iald hx hb hK f_s.2.1 (vp_ib (lo := 2) (hi := 2) (ib_nI (n := 2) (by decide)) (by decide) (by decide)) dX6_counts_18 ?_
  refine lv_icmp_ge (tgt := 120) hx hb dX6_counts_19 (by decide) (fun h_1 => ?_) (fun h_1 => ?_)
  · have hN_k : k = ((mS x) (2 : Int32).toNatClampNeg).toNatClampNeg := ge_ex (N := ((mS x) (2 : Int32).toNatClampNeg).toNatClampNeg) (cnt_beq hC2 (by decide)) h_1 hk_k (by omega)
    subst hN_k
    rw [Nat.sub_self] at hV
    refine lv_aload_n hx hb dX6_counts_120 rfl (lv_at hl 0 rfl) ?_
    refine lv_aload_n hx hb dX6_counts_121 rfl (lv_at hl 0 rfl) ?_
    refine r_get (C := RX6) (T := TX6) (N := 18) hx hb hts i_X6_counts_X6 hown hK f_s.1 rfl 11 (by decide) k_X6_counts_fieldLink_204 rfl rfl dX6_counts_122 ?_
    refine lv_lconst (v := 0) hx hb dX6_counts_125 (by decide) ?_
    refine W.lcmp hx hb dX6_counts_126 ?_
    refine join_wr (nL := 5) 138 [(0, .ref (M 0)), (1, .int mv), (2, .int ti), (3, .int (nI (((mS x) (2 : Int32).toNatClampNeg).toNatClampNeg)))] [.long (if (lg_cmp Al_k 0) = 0 then 1 else Al_k), .ref (M 0)] (fun H locs => (MAt G M (mCt x Al_k Sa_k) H) ∧ wS (m0 M) s.heap H locs ∧ True) (fun H locs hI ls hl => ?_) (fun J_2 => ?_)
    · obtain ⟨f_s, hS, hZ⟩ := hI
      refine w_put (C := RX6) (T := TX6) (N := 18) hx hb hts i_X6_counts_X6 tyX6 tyX6_ok nmX6 hown hK f_s.1 hS rfl rfl 11 (by decide) k_X6_counts_fieldLink_204 rfl rfl rfl rfl (Nat.le_of_ble_eq_true rfl) dX6_counts_138 (fun H locs hn hq hS => ?_)
      have f_s : MAt G M (mCt x (if (lg_cmp Al_k 0) = 0 then 1 else Al_k) Sa_k) H := f_s.put0 hN hn hq rfl rfl rfl rfl
      have hE9 : r_counts x mv ti = ((if (lg_cmp Al_k 0) = 0 then 1 else Al_k), Sa_k) := (by (try unfold r_counts); rw [← hV, r_countsGo_0]; first | done | rfl)
      exact wr_vret hx hb hr hlocks dX6_counts_141 hS (by first | exact f_s | (rw [hE9]; exact f_s))
    · refine lv_if_ne (tgt := 134) hx hb dX6_counts_127 (by decide) (fun h_3 => ?_) (fun h_3 => ?_)
      · have h_3 : ¬ ((lg_cmp Al_k 0) = 0) := h_3
        refine lv_aload_n hx hb dX6_counts_134 rfl (lv_at hl 0 rfl) ?_
        refine r_get (C := RX6) (T := TX6) (N := 18) hx hb hts i_X6_counts_X6 hown hK f_s.1 rfl 11 (by decide) k_X6_counts_fieldLink_204 rfl rfl dX6_counts_135 ?_
        have hJ := J_2; (repeat rw [if_neg h_3] at hJ)
        first | exact hJ _ _ ⟨f_s, hS, hZ⟩ ls (lv_sub hl [0, 1, 2, 3] rfl) | ((repeat rw [if_neg h_3] at hl); (repeat rw [if_neg h_3]); (repeat rw [if_neg h_3] at f_s); exact hJ _ _ ⟨f_s, hS, hZ⟩ ls (lv_sub hl [0, 1, 2, 3] rfl))
      · have h_3 : (lg_cmp Al_k 0) = 0 := h_3
        refine lv_lconst (v := 1) hx hb dX6_counts_130 (by decide) ?_
        refine lv_goto (tgt := 138) hx hb dX6_counts_131 (by decide) ?_
        have hJ := J_2; (repeat rw [if_pos h_3] at hJ)
        first | exact hJ _ _ ⟨f_s, hS, hZ⟩ ls (lv_sub hl [0, 1, 2, 3] rfl) | ((repeat rw [if_pos h_3] at hl); (repeat rw [if_pos h_3]); (repeat rw [if_pos h_3] at f_s); exact hJ _ _ ⟨f_s, hS, hZ⟩ ls (lv_sub hl [0, 1, 2, 3] rfl))
  · have hlt_k : k < ((mS x) (2 : Int32).toNatClampNeg).toNatClampNeg := ge_in (N := ((mS x) (2 : Int32).toNatClampNeg).toNatClampNeg) (cnt_beq hC2 (by decide)) h_1 hk_k (by omega)
    obtain ⟨n9, hn9⟩ : ∃ n9, (((mS x) (2 : Int32).toNatClampNeg).toNatClampNeg) - k = n9 + 1 := ⟨(((mS x) (2 : Int32).toNatClampNeg).toNatClampNeg) - k - 1, by omega⟩
    rw [hn9] at hV
    refine lv_aload_n hx hb dX6_counts_22 rfl (lv_at hl 0 rfl) ?_
    refine r_get (C := RX6) (T := TX6) (N := 18) hx hb hts i_X6_counts_X6 hown hK f_s.1 rfl 1 (by decide) k_X6_counts_fieldLink_9 rfl rfl dX6_counts_23 ?_
    refine lv_sipush (v := 322) hx hb dX6_counts_26 (by decide +kernel) ?_
    refine lv_iload_n hx hb dX6_counts_29 rfl (lv_at hl 3 rfl) ?_
    refine lv_iadd hx hb dX6_counts_30 ?_
    refine r_iald hx hb hK f_s.2.1 (vp_ib (lo := 322) (hi := 361) (ib_add (ib_nI (n := 322) (by decide)) (ib_ltc hC2 (by omega) (by decide)) (by decide) (by decide)) (by decide) (by decide)) dX6_counts_31 ?_
    refine lv_istore (lv' := [(4, .int ((mS x) (322 + (nI k)).toNatClampNeg)), (0, .ref (M 0)), (1, .int mv), (2, .int ti), (3, .int (nI k))]) hx hb dX6_counts_32 hl (by decide) rfl (fun ls hl => ?_)
    refine lv_aload_n hx hb dX6_counts_34 rfl (lv_at hl 1 rfl) ?_
    refine lv_iload_n hx hb dX6_counts_35 rfl (lv_at hl 4 rfl) ?_
    refine ro_call (va_runV (As := [.int (nI k)]) (rest := []) hC (c_X6_isUnchanged l G M (mCt x Al_k Sa_k) (nI k) hI hO (ib.weak (ib_ltc hC2 (by omega) (by decide)) (by decide) (by decide))) (cwV 1 hts gX6_counts_X6_isUnchanged rfl rfl rfl kd_X6_isUnchanged ⟨Nat.le_of_ble_eq_true rfl, Nat.le_of_ble_eq_true rfl⟩) (ro_preV hK f_s.1 rfl f_s) rfl rfl hl.1 rfl (lv_room (Nat.le_of_ble_eq_true rfl)) dX6_counts_36 ⟨Nat.zero_le _, Nat.zero_le _⟩) ?_
    refine bz_eq (tgt := 114) hx hb dX6_counts_39 (by decide) (fun h_4 => ?_) (fun h_4 => ?_)
    · have h_4 : ¬ ((r_isUnchanged x (nI k)) = true) := h_4
      refine lv_iinc (v := (nI k) + 1) (lv' := [(3, .int ((nI k) + 1)), (4, .int ((mS x) (322 + (nI k)).toNatClampNeg)), (0, .ref (M 0)), (1, .int mv), (2, .int ti)]) hx hb dX6_counts_114 hl (k := 4) rfl rfl (by decide) rfl (fun ls hl => ?_)
      refine lv_goto (tgt := 12) hx hb dX6_counts_117 (by decide) ?_
      have hE : r_countsGo x mv ti n9 (k + 1) Al_k Sa_k = r_countsGo x mv ti (((mS x) (2 : Int32).toNatClampNeg).toNatClampNeg) 0 (0) (0) := (by rw [← hV, r_countsGo_s]; (repeat rw [if_neg h_4]); first | done | rfl)
      refine ih_k ((k + 1, Al_k, Sa_k)) _ _ ⟨⟨(show k + 1 ≤ ((mS x) (2 : Int32).toNatClampNeg).toNatClampNeg by omega), (by show r_countsGo x mv ti ((((mS x) (2 : Int32).toNatClampNeg).toNatClampNeg) - (k + 1)) (k + 1) Al_k Sa_k = _; rw [show (((mS x) (2 : Int32).toNatClampNeg).toNatClampNeg) - (k + 1) = n9 by omega]; exact hE)⟩, f_s, hS, hZ⟩ (show (((mS x) (2 : Int32).toNatClampNeg).toNatClampNeg) - (k + 1) < (((mS x) (2 : Int32).toNatClampNeg).toNatClampNeg) - k by omega) ls ?_
      show lv_has ls 5 [(0, .ref (M 0)), (1, .int mv), (2, .int ti), (3, .int (nI (k + 1)))]
      rw [nI_succ]
      exact lv_sub hl [2, 3, 4, 0] rfl
    · have h_4 : (r_isUnchanged x (nI k)) = true := h_4
      refine lv_aload_n hx hb dX6_counts_42 rfl (lv_at hl 1 rfl) ?_
      refine r_get (C := RX6) (T := TX6) (N := 18) hx hb hts i_X6_counts_X6 hown hK f_s.1 rfl 1 (by decide) k_X6_counts_fieldLink_9 rfl rfl dX6_counts_43 ?_
      refine lv_sipush (v := 186) hx hb dX6_counts_46 (by decide +kernel) ?_
      refine lv_iload hx hb dX6_counts_49 (lv_at hl 0 rfl) ?_
      refine lv_iadd hx hb dX6_counts_51 ?_
      refine r_iald hx hb hK f_s.2.1 (vp_ib (lo := 186) (hi := 201) (ib_add (ib_nI (n := 186) (by decide)) (mI.at (lo := 322) (hi := 361) (x := 0) (y := 15) hI (ib_add (ib_nI (n := 322) (by decide)) (ib_ltc hC2 (by omega) (by decide)) (by decide) (by decide)) (by decide) (by decide) (by decide)) (by decide) (by decide)) (by decide) (by decide)) dX6_counts_52 ?_
      refine lv_iload_n hx hb dX6_counts_53 rfl (lv_at hl 2 rfl) ?_
      refine lv_icmp_ne (tgt := 114) hx hb dX6_counts_54 (by decide) (fun h_5 => ?_) (fun h_5 => ?_)
      · have h_5 : ¬ (((mS x) (186 + ((mS x) (322 + (nI k)).toNatClampNeg)).toNatClampNeg) = mv) := h_5
        refine lv_iinc (v := (nI k) + 1) (lv' := [(3, .int ((nI k) + 1)), (4, .int ((mS x) (322 + (nI k)).toNatClampNeg)), (0, .ref (M 0)), (1, .int mv), (2, .int ti)]) hx hb dX6_counts_114 hl (k := 4) rfl rfl (by decide) rfl (fun ls hl => ?_)
        refine lv_goto (tgt := 12) hx hb dX6_counts_117 (by decide) ?_
        have hE : r_countsGo x mv ti n9 (k + 1) Al_k Sa_k = r_countsGo x mv ti (((mS x) (2 : Int32).toNatClampNeg).toNatClampNeg) 0 (0) (0) := (by rw [← hV, r_countsGo_s]; (repeat rw [if_pos h_4]); (repeat rw [if_neg h_5]); first | done | rfl)
        refine ih_k ((k + 1, Al_k, Sa_k)) _ _ ⟨⟨(show k + 1 ≤ ((mS x) (2 : Int32).toNatClampNeg).toNatClampNeg by omega), (by show r_countsGo x mv ti ((((mS x) (2 : Int32).toNatClampNeg).toNatClampNeg) - (k + 1)) (k + 1) Al_k Sa_k = _; rw [show (((mS x) (2 : Int32).toNatClampNeg).toNatClampNeg) - (k + 1) = n9 by omega]; exact hE)⟩, f_s, hS, hZ⟩ (show (((mS x) (2 : Int32).toNatClampNeg).toNatClampNeg) - (k + 1) < (((mS x) (2 : Int32).toNatClampNeg).toNatClampNeg) - k by omega) ls ?_
        show lv_has ls 5 [(0, .ref (M 0)), (1, .int mv), (2, .int ti), (3, .int (nI (k + 1)))]
        rw [nI_succ]
        exact lv_sub hl [2, 3, 4, 0] rfl
      · have h_5 : ((mS x) (186 + ((mS x) (322 + (nI k)).toNatClampNeg)).toNatClampNeg) = mv := h_5
        refine lv_iload_n hx hb dX6_counts_57 rfl (lv_at hl 3 rfl) ?_
        refine lv_if_eq (tgt := 76) hx hb dX6_counts_58 (by decide) (fun h_6 => ?_) (fun h_6 => ?_)
        · have h_6 : ti = 0 := h_6
          refine lv_aload_n hx hb dX6_counts_76 rfl (lv_at hl 1 rfl) ?_
          refine lv_dup hx hb dX6_counts_77 rfl ?_
          refine r_get (C := RX6) (T := TX6) (N := 18) hx hb hts i_X6_counts_X6 hown hK f_s.1 rfl 11 (by decide) k_X6_counts_fieldLink_204 rfl rfl dX6_counts_78 ?_
          refine lv_lconst (v := 1) hx hb dX6_counts_81 (by decide) ?_
          refine lv_ladd hx hb dX6_counts_82 ?_
          refine w_put (C := RX6) (T := TX6) (N := 18) hx hb hts i_X6_counts_X6 tyX6 tyX6_ok nmX6 hown hK f_s.1 hS rfl rfl 11 (by decide) k_X6_counts_fieldLink_204 rfl rfl rfl rfl (Nat.le_of_ble_eq_true rfl) dX6_counts_83 (fun H locs hn hq hS => ?_)
          have f_s : MAt G M (mCt x (Al_k + 1) Sa_k) H := f_s.put0 hN hn hq rfl rfl rfl rfl
          refine lv_aload_n hx hb dX6_counts_86 rfl (lv_at hl 1 rfl) ?_
          refine lv_dup hx hb dX6_counts_87 rfl ?_
          refine r_get (C := RX6) (T := TX6) (N := 18) hx hb hts i_X6_counts_X6 hown hK f_s.1 rfl 12 (by decide) k_X6_counts_fieldLink_208 rfl rfl dX6_counts_88 ?_
          refine lv_aload_n hx hb dX6_counts_91 rfl (lv_at hl 1 rfl) ?_
          refine r_get (C := RX6) (T := TX6) (N := 18) hx hb hts i_X6_counts_X6 hown hK f_s.1 rfl 1 (by decide) k_X6_counts_fieldLink_9 rfl rfl dX6_counts_92 ?_
          refine lv_sipush (v := 362) hx hb dX6_counts_95 (by decide +kernel) ?_
          refine lv_iload_n hx hb dX6_counts_98 rfl (lv_at hl 4 rfl) ?_
          refine lv_iadd hx hb dX6_counts_99 ?_
          refine r_iald hx hb hK f_s.2.1 (vp_ib (lo := 362) (hi := 401) (ib_add (ib_nI (n := 362) (by decide)) (ib_ltc hC2 (by omega) (by decide)) (by decide) (by decide)) (by decide) (by decide)) dX6_counts_100 ?_
          refine lv_iconst (v := 1) hx hb dX6_counts_101 (by decide) ?_
          refine join_wr (nL := 5) 110 [(4, .int ((mS x) (322 + (nI k)).toNatClampNeg)), (0, .ref (M 0)), (1, .int mv), (2, .int ti), (3, .int (nI k))] [.long (if ((mS x) (362 + (nI k)).toNatClampNeg) = 1 then 1 else 0), .long Sa_k, .ref (M 0)] (fun H locs => (MAt G M (mCt x (Al_k + 1) Sa_k) H) ∧ wS (m0 M) s.heap H locs ∧ True) (fun H locs hI ls hl => ?_) (fun J_7 => ?_)
          · obtain ⟨f_s, hS, hZ⟩ := hI
            refine lv_ladd hx hb dX6_counts_110 ?_
            refine w_put (C := RX6) (T := TX6) (N := 18) hx hb hts i_X6_counts_X6 tyX6 tyX6_ok nmX6 hown hK f_s.1 hS rfl rfl 12 (by decide) k_X6_counts_fieldLink_208 rfl rfl rfl rfl (Nat.le_of_ble_eq_true rfl) dX6_counts_111 (fun H locs hn hq hS => ?_)
            have f_s : MAt G M (mCt x (Al_k + 1) (Sa_k + (if ((mS x) (362 + (nI k)).toNatClampNeg) = 1 then 1 else 0))) H := f_s.put0 hN hn hq rfl rfl rfl rfl
            refine lv_iinc (v := (nI k) + 1) (lv' := [(3, .int ((nI k) + 1)), (4, .int ((mS x) (322 + (nI k)).toNatClampNeg)), (0, .ref (M 0)), (1, .int mv), (2, .int ti)]) hx hb dX6_counts_114 hl (k := 4) rfl rfl (by decide) rfl (fun ls hl => ?_)
            refine lv_goto (tgt := 12) hx hb dX6_counts_117 (by decide) ?_
            have hE : r_countsGo x mv ti n9 (k + 1) (Al_k + 1) (Sa_k + (if ((mS x) (362 + (nI k)).toNatClampNeg) = 1 then 1 else 0)) = r_countsGo x mv ti (((mS x) (2 : Int32).toNatClampNeg).toNatClampNeg) 0 (0) (0) := (by rw [← hV, r_countsGo_s]; (repeat rw [if_pos h_4]); (repeat rw [if_pos h_5]); (repeat rw [if_pos h_6]); first | done | rfl)
            refine ih_k ((k + 1, (Al_k + 1), (Sa_k + (if ((mS x) (362 + (nI k)).toNatClampNeg) = 1 then 1 else 0)))) _ _ ⟨⟨(show k + 1 ≤ ((mS x) (2 : Int32).toNatClampNeg).toNatClampNeg by omega), (by show r_countsGo x mv ti ((((mS x) (2 : Int32).toNatClampNeg).toNatClampNeg) - (k + 1)) (k + 1) (Al_k + 1) (Sa_k + (if ((mS x) (362 + (nI k)).toNatClampNeg) = 1 then 1 else 0)) = _; rw [show (((mS x) (2 : Int32).toNatClampNeg).toNatClampNeg) - (k + 1) = n9 by omega]; exact hE)⟩, f_s, hS, hZ⟩ (show (((mS x) (2 : Int32).toNatClampNeg).toNatClampNeg) - (k + 1) < (((mS x) (2 : Int32).toNatClampNeg).toNatClampNeg) - k by omega) ls ?_
            show lv_has ls 5 [(0, .ref (M 0)), (1, .int mv), (2, .int ti), (3, .int (nI (k + 1)))]
            rw [nI_succ]
            exact lv_sub hl [2, 3, 4, 0] rfl
          · refine lv_icmp_ne (tgt := 109) hx hb dX6_counts_102 (by decide) (fun h_8 => ?_) (fun h_8 => ?_)
            · have h_8 : ¬ (((mS x) (362 + (nI k)).toNatClampNeg) = 1) := h_8
              refine lv_lconst (v := 0) hx hb dX6_counts_109 (by decide) ?_
              have hJ := J_7; (repeat rw [if_neg h_8] at hJ)
              first | exact hJ _ _ ⟨f_s, hS, hZ⟩ ls (lv_sub hl [0, 1, 2, 3, 4] rfl) | ((repeat rw [if_neg h_8] at hl); (repeat rw [if_neg h_8]); (repeat rw [if_neg h_8] at f_s); exact hJ _ _ ⟨f_s, hS, hZ⟩ ls (lv_sub hl [0, 1, 2, 3, 4] rfl))
            · have h_8 : ((mS x) (362 + (nI k)).toNatClampNeg) = 1 := h_8
              refine lv_lconst (v := 1) hx hb dX6_counts_105 (by decide) ?_
              refine lv_goto (tgt := 110) hx hb dX6_counts_106 (by decide) ?_
              have hJ := J_7; (repeat rw [if_pos h_8] at hJ)
              first | exact hJ _ _ ⟨f_s, hS, hZ⟩ ls (lv_sub hl [0, 1, 2, 3, 4] rfl) | ((repeat rw [if_pos h_8] at hl); (repeat rw [if_pos h_8]); (repeat rw [if_pos h_8] at f_s); exact hJ _ _ ⟨f_s, hS, hZ⟩ ls (lv_sub hl [0, 1, 2, 3, 4] rfl))
        · have h_6 : ¬ (ti = 0) := h_6
          refine lv_aload_n hx hb dX6_counts_61 rfl (lv_at hl 1 rfl) ?_
          refine r_get (C := RX6) (T := TX6) (N := 18) hx hb hts i_X6_counts_X6 hown hK f_s.1 rfl 1 (by decide) k_X6_counts_fieldLink_9 rfl rfl dX6_counts_62 ?_
          refine lv_sipush (v := 202) hx hb dX6_counts_65 (by decide +kernel) ?_
          refine lv_iload hx hb dX6_counts_68 (lv_at hl 0 rfl) ?_
          refine lv_iadd hx hb dX6_counts_70 ?_
          refine r_iald hx hb hK f_s.2.1 (vp_ib (lo := 202) (hi := 217) (ib_add (ib_nI (n := 202) (by decide)) (mI.at (lo := 322) (hi := 361) (x := 0) (y := 15) hI (ib_add (ib_nI (n := 322) (by decide)) (ib_ltc hC2 (by omega) (by decide)) (by decide) (by decide)) (by decide) (by decide) (by decide)) (by decide) (by decide)) (by decide) (by decide)) dX6_counts_71 ?_
          refine lv_iload_n hx hb dX6_counts_72 rfl (lv_at hl 3 rfl) ?_
          refine lv_icmp_ne (tgt := 114) hx hb dX6_counts_73 (by decide) (fun h_9 => ?_) (fun h_9 => ?_)
          · have h_9 : ¬ (((mS x) (202 + ((mS x) (322 + (nI k)).toNatClampNeg)).toNatClampNeg) = ti) := h_9
            refine lv_iinc (v := (nI k) + 1) (lv' := [(3, .int ((nI k) + 1)), (4, .int ((mS x) (322 + (nI k)).toNatClampNeg)), (0, .ref (M 0)), (1, .int mv), (2, .int ti)]) hx hb dX6_counts_114 hl (k := 4) rfl rfl (by decide) rfl (fun ls hl => ?_)
            refine lv_goto (tgt := 12) hx hb dX6_counts_117 (by decide) ?_
            have hE : r_countsGo x mv ti n9 (k + 1) Al_k Sa_k = r_countsGo x mv ti (((mS x) (2 : Int32).toNatClampNeg).toNatClampNeg) 0 (0) (0) := (by rw [← hV, r_countsGo_s]; (repeat rw [if_pos h_4]); (repeat rw [if_pos h_5]); (repeat rw [if_neg h_6]); (repeat rw [if_neg h_9]); first | done | rfl)
            refine ih_k ((k + 1, Al_k, Sa_k)) _ _ ⟨⟨(show k + 1 ≤ ((mS x) (2 : Int32).toNatClampNeg).toNatClampNeg by omega), (by show r_countsGo x mv ti ((((mS x) (2 : Int32).toNatClampNeg).toNatClampNeg) - (k + 1)) (k + 1) Al_k Sa_k = _; rw [show (((mS x) (2 : Int32).toNatClampNeg).toNatClampNeg) - (k + 1) = n9 by omega]; exact hE)⟩, f_s, hS, hZ⟩ (show (((mS x) (2 : Int32).toNatClampNeg).toNatClampNeg) - (k + 1) < (((mS x) (2 : Int32).toNatClampNeg).toNatClampNeg) - k by omega) ls ?_
            show lv_has ls 5 [(0, .ref (M 0)), (1, .int mv), (2, .int ti), (3, .int (nI (k + 1)))]
            rw [nI_succ]
            exact lv_sub hl [2, 3, 4, 0] rfl
          · have h_9 : ((mS x) (202 + ((mS x) (322 + (nI k)).toNatClampNeg)).toNatClampNeg) = ti := h_9
            refine lv_aload_n hx hb dX6_counts_76 rfl (lv_at hl 1 rfl) ?_
            refine lv_dup hx hb dX6_counts_77 rfl ?_
            refine r_get (C := RX6) (T := TX6) (N := 18) hx hb hts i_X6_counts_X6 hown hK f_s.1 rfl 11 (by decide) k_X6_counts_fieldLink_204 rfl rfl dX6_counts_78 ?_
            refine lv_lconst (v := 1) hx hb dX6_counts_81 (by decide) ?_
            refine lv_ladd hx hb dX6_counts_82 ?_
            refine w_put (C := RX6) (T := TX6) (N := 18) hx hb hts i_X6_counts_X6 tyX6 tyX6_ok nmX6 hown hK f_s.1 hS rfl rfl 11 (by decide) k_X6_counts_fieldLink_204 rfl rfl rfl rfl (Nat.le_of_ble_eq_true rfl) dX6_counts_83 (fun H locs hn hq hS => ?_)
            have f_s : MAt G M (mCt x (Al_k + 1) Sa_k) H := f_s.put0 hN hn hq rfl rfl rfl rfl
            refine lv_aload_n hx hb dX6_counts_86 rfl (lv_at hl 1 rfl) ?_
            refine lv_dup hx hb dX6_counts_87 rfl ?_
            refine r_get (C := RX6) (T := TX6) (N := 18) hx hb hts i_X6_counts_X6 hown hK f_s.1 rfl 12 (by decide) k_X6_counts_fieldLink_208 rfl rfl dX6_counts_88 ?_
            refine lv_aload_n hx hb dX6_counts_91 rfl (lv_at hl 1 rfl) ?_
            refine r_get (C := RX6) (T := TX6) (N := 18) hx hb hts i_X6_counts_X6 hown hK f_s.1 rfl 1 (by decide) k_X6_counts_fieldLink_9 rfl rfl dX6_counts_92 ?_
            refine lv_sipush (v := 362) hx hb dX6_counts_95 (by decide +kernel) ?_
            refine lv_iload_n hx hb dX6_counts_98 rfl (lv_at hl 4 rfl) ?_
            refine lv_iadd hx hb dX6_counts_99 ?_
            refine r_iald hx hb hK f_s.2.1 (vp_ib (lo := 362) (hi := 401) (ib_add (ib_nI (n := 362) (by decide)) (ib_ltc hC2 (by omega) (by decide)) (by decide) (by decide)) (by decide) (by decide)) dX6_counts_100 ?_
            refine lv_iconst (v := 1) hx hb dX6_counts_101 (by decide) ?_
            refine join_wr (nL := 5) 110 [(4, .int ((mS x) (322 + (nI k)).toNatClampNeg)), (0, .ref (M 0)), (1, .int mv), (2, .int ti), (3, .int (nI k))] [.long (if ((mS x) (362 + (nI k)).toNatClampNeg) = 1 then 1 else 0), .long Sa_k, .ref (M 0)] (fun H locs => (MAt G M (mCt x (Al_k + 1) Sa_k) H) ∧ wS (m0 M) s.heap H locs ∧ True) (fun H locs hI ls hl => ?_) (fun J_10 => ?_)
            · obtain ⟨f_s, hS, hZ⟩ := hI
              refine lv_ladd hx hb dX6_counts_110 ?_
              refine w_put (C := RX6) (T := TX6) (N := 18) hx hb hts i_X6_counts_X6 tyX6 tyX6_ok nmX6 hown hK f_s.1 hS rfl rfl 12 (by decide) k_X6_counts_fieldLink_208 rfl rfl rfl rfl (Nat.le_of_ble_eq_true rfl) dX6_counts_111 (fun H locs hn hq hS => ?_)
              have f_s : MAt G M (mCt x (Al_k + 1) (Sa_k + (if ((mS x) (362 + (nI k)).toNatClampNeg) = 1 then 1 else 0))) H := f_s.put0 hN hn hq rfl rfl rfl rfl
              refine lv_iinc (v := (nI k) + 1) (lv' := [(3, .int ((nI k) + 1)), (4, .int ((mS x) (322 + (nI k)).toNatClampNeg)), (0, .ref (M 0)), (1, .int mv), (2, .int ti)]) hx hb dX6_counts_114 hl (k := 4) rfl rfl (by decide) rfl (fun ls hl => ?_)
              refine lv_goto (tgt := 12) hx hb dX6_counts_117 (by decide) ?_
              have hE : r_countsGo x mv ti n9 (k + 1) (Al_k + 1) (Sa_k + (if ((mS x) (362 + (nI k)).toNatClampNeg) = 1 then 1 else 0)) = r_countsGo x mv ti (((mS x) (2 : Int32).toNatClampNeg).toNatClampNeg) 0 (0) (0) := (by rw [← hV, r_countsGo_s]; (repeat rw [if_pos h_4]); (repeat rw [if_pos h_5]); (repeat rw [if_neg h_6]); (repeat rw [if_pos h_9]); first | done | rfl)
              refine ih_k ((k + 1, (Al_k + 1), (Sa_k + (if ((mS x) (362 + (nI k)).toNatClampNeg) = 1 then 1 else 0)))) _ _ ⟨⟨(show k + 1 ≤ ((mS x) (2 : Int32).toNatClampNeg).toNatClampNeg by omega), (by show r_countsGo x mv ti ((((mS x) (2 : Int32).toNatClampNeg).toNatClampNeg) - (k + 1)) (k + 1) (Al_k + 1) (Sa_k + (if ((mS x) (362 + (nI k)).toNatClampNeg) = 1 then 1 else 0)) = _; rw [show (((mS x) (2 : Int32).toNatClampNeg).toNatClampNeg) - (k + 1) = n9 by omega]; exact hE)⟩, f_s, hS, hZ⟩ (show (((mS x) (2 : Int32).toNatClampNeg).toNatClampNeg) - (k + 1) < (((mS x) (2 : Int32).toNatClampNeg).toNatClampNeg) - k by omega) ls ?_
              show lv_has ls 5 [(0, .ref (M 0)), (1, .int mv), (2, .int ti), (3, .int (nI (k + 1)))]
              rw [nI_succ]
              exact lv_sub hl [2, 3, 4, 0] rfl
            · refine lv_icmp_ne (tgt := 109) hx hb dX6_counts_102 (by decide) (fun h_11 => ?_) (fun h_11 => ?_)
              · have h_11 : ¬ (((mS x) (362 + (nI k)).toNatClampNeg) = 1) := h_11
                refine lv_lconst (v := 0) hx hb dX6_counts_109 (by decide) ?_
                have hJ := J_10; (repeat rw [if_neg h_11] at hJ)
                first | exact hJ _ _ ⟨f_s, hS, hZ⟩ ls (lv_sub hl [0, 1, 2, 3, 4] rfl) | ((repeat rw [if_neg h_11] at hl); (repeat rw [if_neg h_11]); (repeat rw [if_neg h_11] at f_s); exact hJ _ _ ⟨f_s, hS, hZ⟩ ls (lv_sub hl [0, 1, 2, 3, 4] rfl))
              · have h_11 : ((mS x) (362 + (nI k)).toNatClampNeg) = 1 := h_11
                refine lv_lconst (v := 1) hx hb dX6_counts_105 (by decide) ?_
                refine lv_goto (tgt := 110) hx hb dX6_counts_106 (by decide) ?_
                have hJ := J_10; (repeat rw [if_pos h_11] at hJ)
                first | exact hJ _ _ ⟨f_s, hS, hZ⟩ ls (lv_sub hl [0, 1, 2, 3, 4] rfl) | ((repeat rw [if_pos h_11] at hl); (repeat rw [if_pos h_11]); (repeat rw [if_pos h_11] at f_s); exact hJ _ _ ⟨f_s, hS, hZ⟩ ls (lv_sub hl [0, 1, 2, 3, 4] rfl))
theorem c2_X6_counts (l : Launch) (G : GG) (M : Nat → Nat) (x : MT) (Al Sa : Int64) (mv ti : Int32)  (hI : mI (mS x)) (hO : mO (mS x)) (hMW : mW (mS x)) (hN : mN M) (Al9 : Int64) (Sa9 : Int64) (hy9 : r_counts x mv ti = (Al9, Sa9)) : Met l yX6_counts wsX6_counts { frames := 1, cells := 0, slots := 0, locals := 21 } (roP G [.ref (M 0), .int mv, .int ti] (fun H => MAt G M (mCt x Al Sa) H)) (wrQ none (fun H => MAt G M (mCt x Al9 Sa9) H) (m0 M)) 0 0 (m0 M) := by
  have h9 := c_X6_counts l G M x Al Sa mv ti hI hO hMW hN
  rw [hy9] at h9
  exact h9
theorem counts_go (x : MT) (mv ti : Int32) : ∀ (n k : Nat) (al sa : Int64), 0 ≤ al.toInt → al.toInt + n ≤ 1000 → 1 ≤ (r_countsGo x mv ti n k al sa).1.toInt ∧ (r_countsGo x mv ti n k al sa).1.toInt ≤ 1000 := by
  intro n
  induction n with
  | zero =>
    intro k al sa h0 h1
    rw [r_countsGo_0]
    split
    · exact ⟨(by decide : (1 : Int) ≤ (1 : Int64).toInt), (by decide : (1 : Int64).toInt ≤ 1000)⟩
    · rename_i h
      have h := lcmp_ne h
      have h2 : al.toInt ≠ 0 := fun e => h (Int64.toInt_inj.mp e)
      exact ⟨by show 1 ≤ al.toInt; omega, by show al.toInt ≤ 1000; omega⟩
  | succ n ih =>
    intro k al sa h0 h1
    have e1 : (al + 1).toInt = al.toInt + 1 := by
      rw [Int64.toInt_add]
      exact Int.bmod_eq_of_le (by have : (1 : Int64).toInt = 1 := rfl; omega) (by have : (1 : Int64).toInt = 1 := rfl; omega)
    rw [r_countsGo_s]
    repeat' split
    all_goals first
      | exact ih _ _ _ (by omega) (by omega)
      | exact ih _ _ _ (by rw [e1]; omega) (by rw [e1]; omega)
theorem counts_ib (x : MT) (hI : mI (mS x)) (mv ti : Int32) : 1 ≤ (r_counts x mv ti).1.toInt ∧ (r_counts x mv ti).1.toInt ≤ 1000 := by
  unfold r_counts
  refine counts_go x mv ti _ _ _ _ (by decide) ?_
  have h : ib 0 40 ((mS x) (2 : Int32).toNatClampNeg) := hI 2 (2, 2, 0, 40) (by decide) (Nat.le_refl _) (Nat.le_refl _)
  have := (h.clamp (by decide)).2
  have e : (0 : Int64).toInt = 0 := rfl
  rw [e]
  omega
theorem counts_ne (x : MT) (hI : mI (mS x)) (mv ti mv2 ti2 : Int32) : (r_counts x mv ti).1 * (r_counts x mv2 ti2).1 ≠ 0 := by
  intro e
  have h1 := counts_ib x hI mv ti
  have h2 := counts_ib x hI mv2 ti2
  have e2 : ((r_counts x mv ti).1 * (r_counts x mv2 ti2).1).toInt = (r_counts x mv ti).1.toInt * (r_counts x mv2 ti2).1.toInt := by
    rw [Int64.toInt_mul]
    have p1 : 0 ≤ (r_counts x mv ti).1.toInt * (r_counts x mv2 ti2).1.toInt := Int.mul_nonneg (by omega) (by omega)
    have p2 : (r_counts x mv ti).1.toInt * (r_counts x mv2 ti2).1.toInt ≤ 1000 * 1000 := Int.mul_le_mul h1.2 h2.2 (by omega) (by decide)
    exact Int.bmod_eq_of_le (by omega) (by omega)
  rw [e] at e2
  have p3 : 0 < (r_counts x mv ti).1.toInt * (r_counts x mv2 ti2).1.toInt := Int.mul_pos (by omega) (by omega)
  have : (0 : Int64).toInt = 0 := rfl
  omega
theorem k_X6_moves_constantLong_178 : Cond.constantLong RX6 178 (-9223372036854775808) ∈ wsX6_moves := by decide +kernel
theorem i_X6_moves_X6 : ∀ w ∈ wsX60, w ∈ wsX6_moves := fun _ h => List.mem_cons_of_mem _ (List.mem_append_right _ h)
theorem k_X6_moves_fieldLink_208 : Cond.fieldLink RX6 208 "SameWaterModel" "same" "J" ∈ wsX6_moves := by decide +kernel
theorem k_X6_moves_fieldLink_204 : Cond.fieldLink RX6 204 "SameWaterModel" "all" "J" ∈ wsX6_moves := by decide +kernel
theorem kd_X6_counts : yX6_counts.cls = RX6 ∧ yX6_counts.cls ≠ "java/lang/invoke/MethodHandle" ∧ yX6_counts.cls ≠ "java/lang/invoke/VarHandle" ∧ (parseMethodDescriptor yX6_counts.desc).map (fun d => d.parameters.length) = some 2 := by decide +kernel
def r_moves (x : MT) (Al Sa : Int64) (what part : Int32) : Int64 × Int64 × Int64 := if (r_in what 0 1) = true then if (r_in part 0 1) = true then (r_lowest ((((r_counts x (b2i (if what = 0 then false else true)) (if what = 0 then 2 else 0)).2) * ((r_counts x 0 (b2i (if what = 0 then true else false))).1)) - (((r_counts x 0 (b2i (if what = 0 then true else false))).2) * ((r_counts x (b2i (if what = 0 then false else true)) (if what = 0 then 2 else 0)).1))) (((r_counts x (b2i (if what = 0 then false else true)) (if what = 0 then 2 else 0)).1) * ((r_counts x 0 (b2i (if what = 0 then true else false))).1)) part, (r_counts x 0 (b2i (if what = 0 then true else false))).1, (r_counts x 0 (b2i (if what = 0 then true else false))).2) else ((-9223372036854775808), Al, Sa) else ((-9223372036854775808), Al, Sa)
set_option maxHeartbeats 4000000 in
set_option maxRecDepth 100000 in
theorem c_X6_moves (l : Launch) (G : GG) (M : Nat → Nat) (x : MT) (Al Sa : Int64) (what part : Int32)  (hI : mI (mS x)) (hO : mO (mS x)) (hMW : mW (mS x)) (hN : mN M) : Met l yX6_moves wsX6_moves { frames := 2, cells := 0, slots := 0, locals := 53 } (roP G [.ref (M 0), .int what, .int part] (fun H => MAt G M (mCt x Al Sa) H)) (wrQ (some (.long ((r_moves x Al Sa what part).1))) (fun H => MAt G M (mCt x ((r_moves x Al Sa what part).2.1) ((r_moves x Al Sa what part).2.2)) H) (m0 M)) 0 0 (m0 M) := by
  refine Met.ofW (cc := cX6_moves) (maxL := 7) (ret := (some .long)) (by decide) rfl ?_
  intro p e s m args below meth c s₁ Bd hml hv
  obtain ⟨rfl, hK, hB⟩ := hv
  have hx := Bd.exec
  have hb := Bd.bytes
  have hr := Bd.returns
  have hts := atoms_spec (ws := wsX6_moves) Bd.pre
  have hown : s.vm.findClass RX6 = some m.cls := findClass_of_methodNamed Bd.named
  have hlocks := Bd.notSynchronized
  have hC : CallFix p m c cX6_moves 7 s _ wsX6_moves RX6 := ⟨hx, hb, hml, hown, hts⟩
  have hl := lv_entry ([.ref (M 0), .int what, .int part]) (n := 7) (Nat.le_of_ble_eq_true rfl)
  rw [lg_entry_eq]
  generalize (lg_sl ([.ref (M 0), .int what, .int part]) ++ List.replicate (7 - (lg_sl ([.ref (M 0), .int what, .int part])).length) Slot.unset).toArray = ls at hl ⊢
  have hl : lv_has ls 7 [(0, .ref (M 0)), (1, .int what), (2, .int part)] := hl
  have hS : wS (m0 M) s.heap s.heap [] := wS.rf
  have f_s := hB
  have hZ := trivial
  refine lv_iload_n hx hb dX6_moves_0 rfl (lv_at hl 1 rfl) ?_
  refine lv_iconst (v := 0) hx hb dX6_moves_1 (by decide) ?_
  refine lv_iconst (v := 1) hx hb dX6_moves_2 (by decide) ?_
  refine ro_call (va_runS (As := [.int what, .int 0, .int 1]) (rest := []) hC (c_X6_in l G what 0 1) (va_cwS 3 hts gX6_moves_X6_in rfl rfl rfl kd_X6_in ⟨Nat.le_of_ble_eq_true rfl, Nat.le_of_ble_eq_true rfl⟩) (ro_preS hK trivial) rfl rfl hl.1 rfl (lv_room (Nat.le_of_ble_eq_true rfl)) dX6_moves_3 ⟨Nat.zero_le _, Nat.zero_le _⟩) ?_
  refine bz_eq (tgt := 18) hx hb dX6_moves_6 (by decide) (fun h_1 => ?_) (fun h_1 => ?_)
  · refine lv_ldc2 (v := (-9223372036854775808)) hx hb hown (hts _ k_X6_moves_constantLong_178) dX6_moves_18 ?_
    have hE9 : r_moves x Al Sa what part = ((-9223372036854775808), Al, Sa) := (by (try unfold r_moves); (repeat rw [if_neg h_1]); first | done | rfl)
    exact wr_lret hx hb hr hlocks dX6_moves_21 hS (by first | exact f_s | (rw [hE9]; exact f_s)) (by rw [hE9]; first | done | rfl)
  · refine lv_iload_n hx hb dX6_moves_9 rfl (lv_at hl 2 rfl) ?_
    refine lv_iconst (v := 0) hx hb dX6_moves_10 (by decide) ?_
    refine lv_iconst (v := 1) hx hb dX6_moves_11 (by decide) ?_
    refine ro_call (va_runS (As := [.int part, .int 0, .int 1]) (rest := []) hC (c_X6_in l G part 0 1) (va_cwS 3 hts gX6_moves_X6_in rfl rfl rfl kd_X6_in ⟨Nat.le_of_ble_eq_true rfl, Nat.le_of_ble_eq_true rfl⟩) (ro_preS hK trivial) rfl rfl hl.1 rfl (lv_room (Nat.le_of_ble_eq_true rfl)) dX6_moves_12 ⟨Nat.zero_le _, Nat.zero_le _⟩) ?_
    refine bz_ne (tgt := 22) hx hb dX6_moves_15 (by decide) (fun h_2 => ?_) (fun h_2 => ?_)
    · refine lv_aload_n hx hb dX6_moves_22 rfl (lv_at hl 0 rfl) ?_
      refine lv_iload_n hx hb dX6_moves_23 rfl (lv_at hl 1 rfl) ?_
      refine join_wr (nL := 7) 32 [(0, .ref (M 0)), (1, .int what), (2, .int part)] [.int (b2i (if what = 0 then false else true)), .ref (M 0)] (fun H locs => (MAt G M (mCt x Al Sa) H) ∧ wS (m0 M) s.heap H locs ∧ True) (fun H locs hI ls hl => ?_) (fun J_3 => ?_)
      · obtain ⟨f_s, hS, hZ⟩ := hI
        refine lv_iload_n hx hb dX6_moves_32 rfl (lv_at hl 1 rfl) ?_
        refine join_wr (nL := 7) 41 [(0, .ref (M 0)), (1, .int what), (2, .int part)] [.int (if what = 0 then 2 else 0), .int (b2i (if what = 0 then false else true)), .ref (M 0)] (fun H locs => (MAt G M (mCt x Al Sa) H) ∧ wS (m0 M) s.heap H locs ∧ True) (fun H locs hI ls hl => ?_) (fun J_4 => ?_)
        · obtain ⟨f_s, hS, hZ⟩ := hI
          refine wr_callv (va_runV (As := [.int (b2i (if what = 0 then false else true)), .int (if what = 0 then 2 else 0)]) (rest := []) hC (c_X6_counts l G M x Al Sa (b2i (if what = 0 then false else true)) (if what = 0 then 2 else 0) hI hO hMW hN) (cwV 2 hts gX6_moves_X6_counts rfl rfl rfl kd_X6_counts ⟨Nat.le_of_ble_eq_true rfl, Nat.le_of_ble_eq_true rfl⟩) (ro_preV hK f_s.1 rfl f_s) rfl rfl hl.1 rfl (lv_room (Nat.le_of_ble_eq_true rfl)) dX6_moves_41 ⟨Nat.zero_le _, Nat.zero_le _⟩) hS (fun q h => h) (fun H locs f_n hq hS => ?_)
          have f_s := f_n
          refine lv_aload_n hx hb dX6_moves_44 rfl (lv_at hl 0 rfl) ?_
          refine r_get (C := RX6) (T := TX6) (N := 18) hx hb hts i_X6_moves_X6 hown hK f_s.1 rfl 12 (by decide) k_X6_moves_fieldLink_208 rfl rfl dX6_moves_45 ?_
          refine lv_lstore_n (lv' := [(3, .long ((r_counts x (b2i (if what = 0 then false else true)) (if what = 0 then 2 else 0)).2)), (0, .ref (M 0)), (1, .int what), (2, .int part)]) hx hb dX6_moves_48 rfl hl (by decide) rfl (fun ls hl => ?_)
          refine lv_aload_n hx hb dX6_moves_49 rfl (lv_at hl 1 rfl) ?_
          refine r_get (C := RX6) (T := TX6) (N := 18) hx hb hts i_X6_moves_X6 hown hK f_s.1 rfl 11 (by decide) k_X6_moves_fieldLink_204 rfl rfl dX6_moves_50 ?_
          refine lv_lstore (lv' := [(5, .long ((r_counts x (b2i (if what = 0 then false else true)) (if what = 0 then 2 else 0)).1)), (3, .long ((r_counts x (b2i (if what = 0 then false else true)) (if what = 0 then 2 else 0)).2)), (0, .ref (M 0)), (1, .int what), (2, .int part)]) hx hb dX6_moves_53 hl (by decide) rfl (fun ls hl => ?_)
          refine lv_aload_n hx hb dX6_moves_55 rfl (lv_at hl 2 rfl) ?_
          refine lv_iconst (v := 0) hx hb dX6_moves_56 (by decide) ?_
          refine lv_iload_n hx hb dX6_moves_57 rfl (lv_at hl 3 rfl) ?_
          refine join_wr (nL := 7) 66 [(5, .long ((r_counts x (b2i (if what = 0 then false else true)) (if what = 0 then 2 else 0)).1)), (3, .long ((r_counts x (b2i (if what = 0 then false else true)) (if what = 0 then 2 else 0)).2)), (0, .ref (M 0)), (1, .int what), (2, .int part)] [.int (b2i (if what = 0 then true else false)), .int 0, .ref (M 0)] (fun H locs => (MAt G M (mCt x ((r_counts x (b2i (if what = 0 then false else true)) (if what = 0 then 2 else 0)).1) ((r_counts x (b2i (if what = 0 then false else true)) (if what = 0 then 2 else 0)).2)) H) ∧ wS (m0 M) s.heap H locs ∧ True) (fun H locs hI ls hl => ?_) (fun J_5 => ?_)
          · obtain ⟨f_s, hS, hZ⟩ := hI
            refine wr_callv (va_runV (As := [.int 0, .int (b2i (if what = 0 then true else false))]) (rest := []) hC (c_X6_counts l G M x ((r_counts x (b2i (if what = 0 then false else true)) (if what = 0 then 2 else 0)).1) ((r_counts x (b2i (if what = 0 then false else true)) (if what = 0 then 2 else 0)).2) 0 (b2i (if what = 0 then true else false)) hI hO hMW hN) (cwV 2 hts gX6_moves_X6_counts rfl rfl rfl kd_X6_counts ⟨Nat.le_of_ble_eq_true rfl, Nat.le_of_ble_eq_true rfl⟩) (ro_preV hK f_s.1 rfl f_s) rfl rfl hl.1 rfl (lv_room (Nat.le_of_ble_eq_true rfl)) dX6_moves_66 ⟨Nat.zero_le _, Nat.zero_le _⟩) hS (fun q h => h) (fun H locs f_n hq hS => ?_)
            have f_s := f_n
            refine lv_lload_n hx hb dX6_moves_69 rfl (lv_at hl 1 rfl) ?_
            refine lv_aload_n hx hb dX6_moves_70 rfl (lv_at hl 2 rfl) ?_
            refine r_get (C := RX6) (T := TX6) (N := 18) hx hb hts i_X6_moves_X6 hown hK f_s.1 rfl 11 (by decide) k_X6_moves_fieldLink_204 rfl rfl dX6_moves_71 ?_
            refine lv_lmul hx hb dX6_moves_74 ?_
            refine lv_aload_n hx hb dX6_moves_75 rfl (lv_at hl 2 rfl) ?_
            refine r_get (C := RX6) (T := TX6) (N := 18) hx hb hts i_X6_moves_X6 hown hK f_s.1 rfl 12 (by decide) k_X6_moves_fieldLink_208 rfl rfl dX6_moves_76 ?_
            refine lv_lload hx hb dX6_moves_79 (lv_at hl 0 rfl) ?_
            refine lv_lmul hx hb dX6_moves_81 ?_
            refine lv_lsub hx hb dX6_moves_82 ?_
            refine lv_lload hx hb dX6_moves_83 (lv_at hl 0 rfl) ?_
            refine lv_aload_n hx hb dX6_moves_85 rfl (lv_at hl 2 rfl) ?_
            refine r_get (C := RX6) (T := TX6) (N := 18) hx hb hts i_X6_moves_X6 hown hK f_s.1 rfl 11 (by decide) k_X6_moves_fieldLink_204 rfl rfl dX6_moves_86 ?_
            refine lv_lmul hx hb dX6_moves_89 ?_
            refine lv_iload_n hx hb dX6_moves_90 rfl (lv_at hl 4 rfl) ?_
            refine ro_call (va_runS (As := [.long ((((r_counts x (b2i (if what = 0 then false else true)) (if what = 0 then 2 else 0)).2) * ((r_counts x 0 (b2i (if what = 0 then true else false))).1)) - (((r_counts x 0 (b2i (if what = 0 then true else false))).2) * ((r_counts x (b2i (if what = 0 then false else true)) (if what = 0 then 2 else 0)).1))), .long (((r_counts x (b2i (if what = 0 then false else true)) (if what = 0 then 2 else 0)).1) * ((r_counts x 0 (b2i (if what = 0 then true else false))).1)), .int part]) (rest := []) hC (c_X6_lowest l G ((((r_counts x (b2i (if what = 0 then false else true)) (if what = 0 then 2 else 0)).2) * ((r_counts x 0 (b2i (if what = 0 then true else false))).1)) - (((r_counts x 0 (b2i (if what = 0 then true else false))).2) * ((r_counts x (b2i (if what = 0 then false else true)) (if what = 0 then 2 else 0)).1))) (((r_counts x (b2i (if what = 0 then false else true)) (if what = 0 then 2 else 0)).1) * ((r_counts x 0 (b2i (if what = 0 then true else false))).1)) part (counts_ne x hI _ _ _ _)) (va_cwS 3 hts gX6_moves_X6_lowest rfl rfl rfl kd_X6_lowest ⟨Nat.le_of_ble_eq_true rfl, Nat.le_of_ble_eq_true rfl⟩) (ro_preS hK trivial) rfl rfl hl.1 rfl (lv_room (Nat.le_of_ble_eq_true rfl)) dX6_moves_91 ⟨Nat.zero_le _, Nat.zero_le _⟩) ?_
            have hE9 : r_moves x Al Sa what part = (r_lowest ((((r_counts x (b2i (if what = 0 then false else true)) (if what = 0 then 2 else 0)).2) * ((r_counts x 0 (b2i (if what = 0 then true else false))).1)) - (((r_counts x 0 (b2i (if what = 0 then true else false))).2) * ((r_counts x (b2i (if what = 0 then false else true)) (if what = 0 then 2 else 0)).1))) (((r_counts x (b2i (if what = 0 then false else true)) (if what = 0 then 2 else 0)).1) * ((r_counts x 0 (b2i (if what = 0 then true else false))).1)) part, (r_counts x 0 (b2i (if what = 0 then true else false))).1, (r_counts x 0 (b2i (if what = 0 then true else false))).2) := (by (try unfold r_moves); (repeat rw [if_pos h_1]); (repeat rw [if_pos h_2]); first | done | rfl)
            exact wr_lret hx hb hr hlocks dX6_moves_94 hS (by first | exact f_s | (rw [hE9]; exact f_s)) (by rw [hE9]; first | done | rfl)
          · refine lv_if_ne (tgt := 65) hx hb dX6_moves_58 (by decide) (fun h_6 => ?_) (fun h_6 => ?_)
            · refine lv_iconst (v := 0) hx hb dX6_moves_65 (by decide) ?_
              have hJ := J_5; (repeat rw [if_neg h_6] at hJ)
              first | exact hJ _ _ ⟨f_s, hS, hZ⟩ ls (lv_sub hl [0, 1, 2, 3, 4] rfl) | ((repeat rw [if_neg h_6] at hl); (repeat rw [if_neg h_6]); (repeat rw [if_neg h_6] at f_s); exact hJ _ _ ⟨f_s, hS, hZ⟩ ls (lv_sub hl [0, 1, 2, 3, 4] rfl))
            · refine lv_iconst (v := 1) hx hb dX6_moves_61 (by decide) ?_
              refine lv_goto (tgt := 66) hx hb dX6_moves_62 (by decide) ?_
              have hJ := J_5; (repeat rw [if_pos h_6] at hJ)
              first | exact hJ _ _ ⟨f_s, hS, hZ⟩ ls (lv_sub hl [0, 1, 2, 3, 4] rfl) | ((repeat rw [if_pos h_6] at hl); (repeat rw [if_pos h_6]); (repeat rw [if_pos h_6] at f_s); exact hJ _ _ ⟨f_s, hS, hZ⟩ ls (lv_sub hl [0, 1, 2, 3, 4] rfl))
        · refine lv_if_ne (tgt := 40) hx hb dX6_moves_33 (by decide) (fun h_7 => ?_) (fun h_7 => ?_)
          · refine lv_iconst (v := 0) hx hb dX6_moves_40 (by decide) ?_
            have hJ := J_4; (repeat rw [if_neg h_7] at hJ)
            first | exact hJ _ _ ⟨f_s, hS, hZ⟩ ls (lv_sub hl [0, 1, 2] rfl) | ((repeat rw [if_neg h_7] at hl); (repeat rw [if_neg h_7]); (repeat rw [if_neg h_7] at f_s); exact hJ _ _ ⟨f_s, hS, hZ⟩ ls (lv_sub hl [0, 1, 2] rfl))
          · refine lv_iconst (v := 2) hx hb dX6_moves_36 (by decide) ?_
            refine lv_goto (tgt := 41) hx hb dX6_moves_37 (by decide) ?_
            have hJ := J_4; (repeat rw [if_pos h_7] at hJ)
            first | exact hJ _ _ ⟨f_s, hS, hZ⟩ ls (lv_sub hl [0, 1, 2] rfl) | ((repeat rw [if_pos h_7] at hl); (repeat rw [if_pos h_7]); (repeat rw [if_pos h_7] at f_s); exact hJ _ _ ⟨f_s, hS, hZ⟩ ls (lv_sub hl [0, 1, 2] rfl))
      · refine lv_if_ne (tgt := 31) hx hb dX6_moves_24 (by decide) (fun h_8 => ?_) (fun h_8 => ?_)
        · refine lv_iconst (v := 1) hx hb dX6_moves_31 (by decide) ?_
          have hJ := J_3; (repeat rw [if_neg h_8] at hJ)
          first | exact hJ _ _ ⟨f_s, hS, hZ⟩ ls (lv_sub hl [0, 1, 2] rfl) | ((repeat rw [if_neg h_8] at hl); (repeat rw [if_neg h_8]); (repeat rw [if_neg h_8] at f_s); exact hJ _ _ ⟨f_s, hS, hZ⟩ ls (lv_sub hl [0, 1, 2] rfl))
        · refine lv_iconst (v := 0) hx hb dX6_moves_27 (by decide) ?_
          refine lv_goto (tgt := 32) hx hb dX6_moves_28 (by decide) ?_
          have hJ := J_3; (repeat rw [if_pos h_8] at hJ)
          first | exact hJ _ _ ⟨f_s, hS, hZ⟩ ls (lv_sub hl [0, 1, 2] rfl) | ((repeat rw [if_pos h_8] at hl); (repeat rw [if_pos h_8]); (repeat rw [if_pos h_8] at f_s); exact hJ _ _ ⟨f_s, hS, hZ⟩ ls (lv_sub hl [0, 1, 2] rfl))
    · refine lv_ldc2 (v := (-9223372036854775808)) hx hb hown (hts _ k_X6_moves_constantLong_178) dX6_moves_18 ?_
      have hE9 : r_moves x Al Sa what part = ((-9223372036854775808), Al, Sa) := (by (try unfold r_moves); (repeat rw [if_pos h_1]); (repeat rw [if_neg h_2]); first | done | rfl)
      exact wr_lret hx hb hr hlocks dX6_moves_21 hS (by first | exact f_s | (rw [hE9]; exact f_s)) (by rw [hE9]; first | done | rfl)
theorem c2_X6_moves (l : Launch) (G : GG) (M : Nat → Nat) (x : MT) (Al Sa : Int64) (what part : Int32)  (hI : mI (mS x)) (hO : mO (mS x)) (hMW : mW (mS x)) (hN : mN M) (r9 : Int64) (Al9 : Int64) (Sa9 : Int64) (hy9 : r_moves x Al Sa what part = (r9, Al9, Sa9)) : Met l yX6_moves wsX6_moves { frames := 2, cells := 0, slots := 0, locals := 53 } (roP G [.ref (M 0), .int what, .int part] (fun H => MAt G M (mCt x Al Sa) H)) (wrQ (some (.long r9)) (fun H => MAt G M (mCt x Al9 Sa9) H) (m0 M)) 0 0 (m0 M) := by
  have h9 := c_X6_moves l G M x Al Sa what part hI hO hMW hN
  rw [hy9] at h9
  exact h9

theorem MAt.putS {G : GG} {M : Nat → Nat} {x y : MT} {f : Nat → Int32} {H H1 : Heap} (h : MAt G M x H) (hN : mN M) (hn : iA G 1 (M 1) 1920 f H1) (hq : ∀ q : Nat, q ≠ M 1 → H1[q]? = H[q]?) (ef : ([.int (mTh y), .ref (M 1), .ref (M 2), .int (b2i (mHi y)), .int (mAc y), .int (mSp y), .int (mEn y), .int (b2i (mWr y)), .int (mOp y), .ref (M 3), .ref (M 4), .long (mAl y), .long (mSa y), .ref (M 5), .int (mRa y), .int (mKi y), .int (mNu y), .int (mTv y)] : List Value) = [.int (mTh x), .ref (M 1), .ref (M 2), .int (b2i (mHi x)), .int (mAc x), .int (mSp x), .int (mEn x), .int (b2i (mWr x)), .int (mOp x), .ref (M 3), .ref (M 4), .long (mAl x), .long (mSa x), .ref (M 5), .int (mRa x), .int (mKi x), .int (mNu x), .int (mTv x)]) (e1 : mS y = f) (e2 : mIm y = mIm x) (e3 : mBo y = mBo x) : MAt G M y H1 := by
  obtain ⟨h0, h1, h2, ⟨g3, h3⟩, ⟨g4, h4⟩, h5⟩ := h
  have k : ∀ j, j < 6 → j ≠ 1 → H1[M j]? = H[M j]? := fun j a b => hq _ (hN j 1 a (by decide) b)
  exact ⟨by rw [ef]; exact h0.kept (k 0 (by decide) (by decide)), by rw [e1]; exact hn, by rw [e2]; exact h2.kept (k 2 (by decide) (by decide)), ⟨g3, h3.kept (k 3 (by decide) (by decide))⟩, ⟨g4, h4.kept (k 4 (by decide) (by decide))⟩, by rw [e3]; exact h5.kept (k 5 (by decide) (by decide))⟩
theorem MAt.putIm {G : GG} {M : Nat → Nat} {x y : MT} {f : Nat → Int32} {H H1 : Heap} (h : MAt G M x H) (hN : mN M) (hn : iA G 1 (M 2) 1920 f H1) (hq : ∀ q : Nat, q ≠ M 2 → H1[q]? = H[q]?) (ef : ([.int (mTh y), .ref (M 1), .ref (M 2), .int (b2i (mHi y)), .int (mAc y), .int (mSp y), .int (mEn y), .int (b2i (mWr y)), .int (mOp y), .ref (M 3), .ref (M 4), .long (mAl y), .long (mSa y), .ref (M 5), .int (mRa y), .int (mKi y), .int (mNu y), .int (mTv y)] : List Value) = [.int (mTh x), .ref (M 1), .ref (M 2), .int (b2i (mHi x)), .int (mAc x), .int (mSp x), .int (mEn x), .int (b2i (mWr x)), .int (mOp x), .ref (M 3), .ref (M 4), .long (mAl x), .long (mSa x), .ref (M 5), .int (mRa x), .int (mKi x), .int (mNu x), .int (mTv x)]) (e1 : mIm y = f) (e2 : mS y = mS x) (e3 : mBo y = mBo x) : MAt G M y H1 := by
  obtain ⟨h0, h1, h2, ⟨g3, h3⟩, ⟨g4, h4⟩, h5⟩ := h
  have k : ∀ j, j < 6 → j ≠ 2 → H1[M j]? = H[M j]? := fun j a b => hq _ (hN j 2 a (by decide) b)
  exact ⟨by rw [ef]; exact h0.kept (k 0 (by decide) (by decide)), by rw [e2]; exact h1.kept (k 1 (by decide) (by decide)), by rw [e1]; exact hn, ⟨g3, h3.kept (k 3 (by decide) (by decide))⟩, ⟨g4, h4.kept (k 4 (by decide) (by decide))⟩, by rw [e3]; exact h5.kept (k 5 (by decide) (by decide))⟩
theorem MAt.putBo {G : GG} {M : Nat → Nat} {x y : MT} {f : Nat → Int32} {H H1 : Heap} (h : MAt G M x H) (hN : mN M) (hn : iA G 1 (M 5) 20 f H1) (hq : ∀ q : Nat, q ≠ M 5 → H1[q]? = H[q]?) (ef : ([.int (mTh y), .ref (M 1), .ref (M 2), .int (b2i (mHi y)), .int (mAc y), .int (mSp y), .int (mEn y), .int (b2i (mWr y)), .int (mOp y), .ref (M 3), .ref (M 4), .long (mAl y), .long (mSa y), .ref (M 5), .int (mRa y), .int (mKi y), .int (mNu y), .int (mTv y)] : List Value) = [.int (mTh x), .ref (M 1), .ref (M 2), .int (b2i (mHi x)), .int (mAc x), .int (mSp x), .int (mEn x), .int (b2i (mWr x)), .int (mOp x), .ref (M 3), .ref (M 4), .long (mAl x), .long (mSa x), .ref (M 5), .int (mRa x), .int (mKi x), .int (mNu x), .int (mTv x)]) (e1 : mBo y = f) (e2 : mS y = mS x) (e3 : mIm y = mIm x) : MAt G M y H1 := by
  obtain ⟨h0, h1, h2, ⟨g3, h3⟩, ⟨g4, h4⟩, h5⟩ := h
  have k : ∀ j, j < 6 → j ≠ 5 → H1[M j]? = H[M j]? := fun j a b => hq _ (hN j 5 a (by decide) b)
  exact ⟨by rw [ef]; exact h0.kept (k 0 (by decide) (by decide)), by rw [e2]; exact h1.kept (k 1 (by decide) (by decide)), by rw [e3]; exact h2.kept (k 2 (by decide) (by decide)), ⟨g3, h3.kept (k 3 (by decide) (by decide))⟩, ⟨g4, h4.kept (k 4 (by decide) (by decide))⟩, by rw [e1]; exact hn⟩
def m1 (M : Nat → Nat) : Nat → Prop := fun q => q = M 1
theorem upd_ne {f : Nat → Int32} {i j : Nat} {v : Int32} (h : j ≠ i) : upd f i v j = f j := by unfold upd; rw [if_neg h]
theorem ib_c {a b : Int} {lo : Nat} {x : Int32} (h : ib a b x) (h0 : (lo : Int) ≤ a) : lo ≤ x.toNatClampNeg := by
  have := (h.clamp (by omega)).1
  omega
theorem i_X6_child_X6 : ∀ w ∈ wsX60, w ∈ wsX6_child := fun _ h => List.mem_cons_of_mem _ (List.mem_append_right _ h)
theorem k_X6_child_fieldLink_9 : Cond.fieldLink RX6 9 "SameWaterModel" "s" "[I" ∈ wsX6_child := by decide +kernel
def r_childGo (x : MT) : Nat → Nat → (Nat → Int32) → Int32 × (Nat → Int32)
  | 0, _, sv_k => ((mS x) (0 : Int32).toNatClampNeg, upd sv_k (0 : Int32).toNatClampNeg ((sv_k (0 : Int32).toNatClampNeg) + 1))
  | n + 1, k, sv_k => r_childGo x n (k + 1) (upd sv_k ((138 + (4 * ((mS x) (0 : Int32).toNatClampNeg))) + (nI k)).toNatClampNeg (-1))
theorem r_childGo_0 (x : MT) (k : Nat) (sv_k : Nat → Int32) : r_childGo x 0 k sv_k = (((mS x) (0 : Int32).toNatClampNeg, upd sv_k (0 : Int32).toNatClampNeg ((sv_k (0 : Int32).toNatClampNeg) + 1))) := rfl
theorem r_childGo_s (x : MT) (n k : Nat) (sv_k : Nat → Int32) : r_childGo x (n + 1) k sv_k = (r_childGo x n (k + 1) (upd sv_k ((138 + (4 * ((mS x) (0 : Int32).toNatClampNeg))) + (nI k)).toNatClampNeg (-1))) := rfl
def r_child (x : MT) (ag : Int32) : Int32 × (Nat → Int32) := if (r_in ag 24 120) = true then if ((mS x) (0 : Int32).toNatClampNeg) = 8 then ((-4), mS x) else r_childGo x 4 0 (upd (mS x) (130 + ((mS x) (0 : Int32).toNatClampNeg)).toNatClampNeg ag) else ((-2), mS x)
set_option maxHeartbeats 400000 in
set_option maxRecDepth 100000 in
theorem c_X6_child (l : Launch) (G : GG) (M : Nat → Nat) (x : MT) (ag : Int32)  (hI : mI (mS x)) (hO : mO (mS x)) (hN : mN M) : Met l yX6_child wsX6_child { frames := 1, cells := 0, slots := 0, locals := 22 } (roP G [.ref (M 0), .int ag] (fun H => MAt G M x H)) (wrQ (some (.int ((r_child x ag).1))) (fun H => MAt G M (mSetS x ((r_child x ag).2)) H) (m1 M)) 0 0 (m1 M) := by
  refine Met.ofW (cc := cX6_child) (maxL := 4) (ret := (some .int)) (by decide) rfl ?_
  intro p e s m args below meth c s₁ Bd hml hv
  obtain ⟨rfl, hK, hB⟩ := hv
  have hx := Bd.exec
  have hb := Bd.bytes
  have hr := Bd.returns
  have hts := atoms_spec (ws := wsX6_child) Bd.pre
  have hown : s.vm.findClass RX6 = some m.cls := findClass_of_methodNamed Bd.named
  have hlocks := Bd.notSynchronized
  have hC : CallFix p m c cX6_child 4 s _ wsX6_child RX6 := ⟨hx, hb, hml, hown, hts⟩
  have hl := lv_entry ([.ref (M 0), .int ag]) (n := 4) (Nat.le_of_ble_eq_true rfl)
  rw [lg_entry_eq]
  generalize (lg_sl ([.ref (M 0), .int ag]) ++ List.replicate (4 - (lg_sl ([.ref (M 0), .int ag])).length) Slot.unset).toArray = ls at hl ⊢
  have hl : lv_has ls 4 [(0, .ref (M 0)), (1, .int ag)] := hl
  have hS : wS (m1 M) s.heap s.heap [] := wS.rf
  have f_s : MAt G M (mSetS x (mS x)) s.heap := hB
  have hZ := trivial
  refine lv_iload_n hx hb dX6_child_0 rfl (lv_at hl 1 rfl) ?_
  refine lv_bipush (v := 24) hx hb dX6_child_1 (by decide +kernel) ?_
  refine lv_bipush (v := 120) hx hb dX6_child_3 (by decide +kernel) ?_
  refine ro_call (va_runS (As := [.int ag, .int 24, .int 120]) (rest := []) hC (c_X6_in l G ag 24 120) (va_cwS 3 hts gX6_child_X6_in rfl rfl rfl kd_X6_in ⟨Nat.le_of_ble_eq_true rfl, Nat.le_of_ble_eq_true rfl⟩) (ro_preS hK trivial) rfl rfl hl.1 rfl (lv_room (Nat.le_of_ble_eq_true rfl)) dX6_child_5 ⟨Nat.zero_le _, Nat.zero_le _⟩) ?_
  refine bz_ne (tgt := 14) hx hb dX6_child_8 (by decide) (fun h_1 => ?_) (fun h_1 => ?_)
  · have h_1 : (r_in ag 24 120) = true := h_1
    refine lv_aload_n hx hb dX6_child_14 rfl (lv_at hl 0 rfl) ?_
    refine r_get (C := RX6) (T := TX6) (N := 18) hx hb hts i_X6_child_X6 hown hK f_s.1 rfl 1 (by decide) k_X6_child_fieldLink_9 rfl rfl dX6_child_15 ?_
    refine lv_iconst (v := 0) hx hb dX6_child_18 (by decide) ?_
    refine r_iald hx hb hK f_s.2.1 (vp_ib (lo := 0) (hi := 0) (ib_nI (n := 0) (by decide)) (by decide) (by decide)) dX6_child_19 ?_
    refine lv_bipush (v := 8) hx hb dX6_child_20 (by decide +kernel) ?_
    refine lv_icmp_ne (tgt := 28) hx hb dX6_child_22 (by decide) (fun h_2 => ?_) (fun h_2 => ?_)
    · have h_2 : ¬ (((mS x) (0 : Int32).toNatClampNeg) = 8) := h_2
      refine lv_aload_n hx hb dX6_child_28 rfl (lv_at hl 0 rfl) ?_
      refine r_get (C := RX6) (T := TX6) (N := 18) hx hb hts i_X6_child_X6 hown hK f_s.1 rfl 1 (by decide) k_X6_child_fieldLink_9 rfl rfl dX6_child_29 ?_
      refine lv_iconst (v := 0) hx hb dX6_child_32 (by decide) ?_
      refine r_iald hx hb hK f_s.2.1 (vp_ib (lo := 0) (hi := 0) (ib_nI (n := 0) (by decide)) (by decide) (by decide)) dX6_child_33 ?_
      refine lv_istore_n (lv' := [(2, .int ((mS x) (0 : Int32).toNatClampNeg)), (0, .ref (M 0)), (1, .int ag)]) hx hb dX6_child_34 rfl hl (by decide) rfl (fun ls hl => ?_)
      refine lv_aload_n hx hb dX6_child_35 rfl (lv_at hl 1 rfl) ?_
      refine r_get (C := RX6) (T := TX6) (N := 18) hx hb hts i_X6_child_X6 hown hK f_s.1 rfl 1 (by decide) k_X6_child_fieldLink_9 rfl rfl dX6_child_36 ?_
      refine lv_sipush (v := 130) hx hb dX6_child_39 (by decide +kernel) ?_
      refine lv_iload_n hx hb dX6_child_42 rfl (lv_at hl 0 rfl) ?_
      refine lv_iadd hx hb dX6_child_43 ?_
      refine lv_iload_n hx hb dX6_child_44 rfl (lv_at hl 2 rfl) ?_
      refine w_iast hx hb hK f_s.2.1 hS rfl (vp_ib (lo := 130) (hi := 138) (ib_add (ib_nI (n := 130) (by decide)) (mI.at (lo := 0) (hi := 0) (x := 0) (y := 8) hI (ib_nI (n := 0) (by decide)) (by decide) (by decide) (by decide)) (by decide) (by decide)) (by decide) (by decide)) dX6_child_45 (fun H locs hn hq hS => ?_)
      have f_s : MAt G M (mSetS x (upd (mS x) (130 + ((mS x) (0 : Int32).toNatClampNeg)).toNatClampNeg ag)) H := f_s.putS hN hn hq rfl rfl rfl rfl
      refine lv_iconst (v := 0) hx hb dX6_child_46 (by decide) ?_
      refine lv_istore_n (lv' := [(3, .int 0), (2, .int ((mS x) (0 : Int32).toNatClampNeg)), (0, .ref (M 0)), (1, .int ag)]) hx hb dX6_child_47 rfl hl (by decide) rfl (fun ls hl => ?_)
      refine loop_wr (nL := 4) (α := Nat × (Nat → Int32)) (fun a9 => [(0, .ref (M 0)), (1, .int ag), (2, .int ((mS x) (0 : Int32).toNatClampNeg)), (3, .int (nI (a9.1)))]) (fun a9 H locs => (a9.1 ≤ 4 ∧ r_childGo x (4 - a9.1) a9.1 a9.2 = r_childGo x 4 0 (upd (mS x) (130 + ((mS x) (0 : Int32).toNatClampNeg)).toNatClampNeg ag)) ∧ (MAt G M (mSetS x (a9.2)) H) ∧ wS (m1 M) s.heap H locs ∧ True) (fun a9 => 4 - a9.1) (0, upd (mS x) (130 + ((mS x) (0 : Int32).toNatClampNeg)).toNatClampNeg ag) ⟨⟨(by first | exact Nat.zero_le _ | decide | omega), rfl⟩, f_s, hS, hZ⟩ (lv_sub hl [2, 3, 1, 0] rfl) (fun a9 H locs hI9 ih_k ls hl => ?_)
      obtain ⟨k, sv_k⟩ := a9
      obtain ⟨hI9, f_s, hS, hZ⟩ := hI9
      have f_s : MAt G M (mSetS x sv_k) H := f_s
      obtain ⟨hk_k, hV⟩ : k ≤ 4 ∧ r_childGo x (4 - k) k sv_k = r_childGo x 4 0 (upd (mS x) (130 + ((mS x) (0 : Int32).toNatClampNeg)).toNatClampNeg ag) := hI9
      have hl : lv_has ls 4 [(0, .ref (M 0)), (1, .int ag), (2, .int ((mS x) (0 : Int32).toNatClampNeg)), (3, .int (nI k))] := hl
      refine lv_iload_n hx hb dX6_child_48 rfl (lv_at hl 3 rfl) ?_
      refine lv_iconst (v := 4) hx hb dX6_child_49 (by decide) ?_
      refine lv_icmp_ge (tgt := 74) hx hb dX6_child_50 (by decide) (fun h_3 => ?_) (fun h_3 => ?_)
      · have hN_k : k = 4 := ge_ex (N := 4) rfl h_3 hk_k (by omega)
        subst hN_k
        rw [Nat.sub_self] at hV
        refine lv_aload_n hx hb dX6_child_74 rfl (lv_at hl 0 rfl) ?_
        refine r_get (C := RX6) (T := TX6) (N := 18) hx hb hts i_X6_child_X6 hown hK f_s.1 rfl 1 (by decide) k_X6_child_fieldLink_9 rfl rfl dX6_child_75 ?_
        refine lv_iconst (v := 0) hx hb dX6_child_78 (by decide) ?_
        refine lv_dup2_11 hx hb dX6_child_79 rfl rfl ?_
        refine r_iald hx hb hK f_s.2.1 (vp_ib (lo := 0) (hi := 0) (ib_nI (n := 0) (by decide)) (by decide) (by decide)) dX6_child_80 ?_
        refine lv_iconst (v := 1) hx hb dX6_child_81 (by decide) ?_
        refine lv_iadd hx hb dX6_child_82 ?_
        refine w_iast hx hb hK f_s.2.1 hS rfl (vp_ib (lo := 0) (hi := 0) (ib_nI (n := 0) (by decide)) (by decide) (by decide)) dX6_child_83 (fun H locs hn hq hS => ?_)
        have f_s : MAt G M (mSetS x (upd sv_k (0 : Int32).toNatClampNeg ((sv_k (0 : Int32).toNatClampNeg) + 1))) H := f_s.putS hN hn hq rfl rfl rfl rfl
        refine lv_iload_n hx hb dX6_child_84 rfl (lv_at hl 2 rfl) ?_
        have hE9 : r_child x ag = ((mS x) (0 : Int32).toNatClampNeg, upd sv_k (0 : Int32).toNatClampNeg ((sv_k (0 : Int32).toNatClampNeg) + 1)) := (by (try unfold r_child); (repeat rw [if_pos h_1]); (repeat rw [if_neg h_2]); rw [← hV, r_childGo_0]; first | done | rfl)
        exact wr_iret hx hb hr hlocks dX6_child_85 hS (by rw [hE9]; exact f_s) (by rw [hE9]; first | done | rfl)
      · have hlt_k : k < 4 := ge_in (N := 4) rfl h_3 hk_k (by omega)
        obtain ⟨n9, hn9⟩ : ∃ n9, 4 - k = n9 + 1 := ⟨4 - k - 1, by omega⟩
        rw [hn9] at hV
        refine lv_aload_n hx hb dX6_child_53 rfl (lv_at hl 0 rfl) ?_
        refine r_get (C := RX6) (T := TX6) (N := 18) hx hb hts i_X6_child_X6 hown hK f_s.1 rfl 1 (by decide) k_X6_child_fieldLink_9 rfl rfl dX6_child_54 ?_
        refine lv_sipush (v := 138) hx hb dX6_child_57 (by decide +kernel) ?_
        refine lv_iconst (v := 4) hx hb dX6_child_60 (by decide) ?_
        refine lv_iload_n hx hb dX6_child_61 rfl (lv_at hl 2 rfl) ?_
        refine lv_imul hx hb dX6_child_62 ?_
        refine lv_iadd hx hb dX6_child_63 ?_
        refine lv_iload_n hx hb dX6_child_64 rfl (lv_at hl 3 rfl) ?_
        refine lv_iadd hx hb dX6_child_65 ?_
        refine lv_iconst (v := (-1)) hx hb dX6_child_66 (by decide) ?_
        refine w_iast hx hb hK f_s.2.1 hS rfl (vp_ib (lo := 138) (hi := 173) (ib_add (ib_add (ib_nI (n := 138) (by decide)) (ib_mulk (k := 4) (mI.at (lo := 0) (hi := 0) (x := 0) (y := 8) hI (ib_nI (n := 0) (by decide)) (by decide) (by decide) (by decide)) (by decide) (by decide) (by decide)) (by decide) (by decide)) (ib_lt (n := 4) (by omega) (by decide)) (by decide) (by decide)) (by decide) (by decide)) dX6_child_67 (fun H locs hn hq hS => ?_)
        have f_s : MAt G M (mSetS x (upd sv_k ((138 + (4 * ((mS x) (0 : Int32).toNatClampNeg))) + (nI k)).toNatClampNeg (-1))) H := f_s.putS hN hn hq rfl rfl rfl rfl
        refine lv_iinc (v := (nI k) + 1) (lv' := [(3, .int ((nI k) + 1)), (0, .ref (M 0)), (1, .int ag), (2, .int ((mS x) (0 : Int32).toNatClampNeg))]) hx hb dX6_child_68 hl (k := 3) rfl rfl (by decide) rfl (fun ls hl => ?_)
        refine lv_goto (tgt := 48) hx hb dX6_child_71 (by decide) ?_
        have hE : r_childGo x n9 (k + 1) (upd sv_k ((138 + (4 * ((mS x) (0 : Int32).toNatClampNeg))) + (nI k)).toNatClampNeg (-1)) = r_childGo x 4 0 (upd (mS x) (130 + ((mS x) (0 : Int32).toNatClampNeg)).toNatClampNeg ag) := (by rw [← hV, r_childGo_s]; first | done | rfl)
        refine ih_k ((k + 1, upd sv_k ((138 + (4 * ((mS x) (0 : Int32).toNatClampNeg))) + (nI k)).toNatClampNeg (-1))) _ _ ⟨⟨(show k + 1 ≤ 4 by omega), (by show r_childGo x (4 - (k + 1)) (k + 1) (upd sv_k ((138 + (4 * ((mS x) (0 : Int32).toNatClampNeg))) + (nI k)).toNatClampNeg (-1)) = _; rw [show 4 - (k + 1) = n9 by omega]; exact hE)⟩, f_s, hS, hZ⟩ (show 4 - (k + 1) < 4 - k by omega) ls ?_
        show lv_has ls 4 [(0, .ref (M 0)), (1, .int ag), (2, .int ((mS x) (0 : Int32).toNatClampNeg)), (3, .int (nI (k + 1)))]
        rw [nI_succ]
        exact lv_sub hl [1, 2, 3, 0] rfl
    · have h_2 : ((mS x) (0 : Int32).toNatClampNeg) = 8 := h_2
      refine lv_bipush (v := (-4)) hx hb dX6_child_25 (by decide +kernel) ?_
      have hE9 : r_child x ag = ((-4), mS x) := (by (try unfold r_child); (repeat rw [if_pos h_1]); (repeat rw [if_pos h_2]); first | done | rfl)
      exact wr_iret hx hb hr hlocks dX6_child_27 hS (by rw [hE9]; exact f_s) (by rw [hE9]; first | done | rfl)
  · have h_1 : ¬ ((r_in ag 24 120) = true) := h_1
    refine lv_bipush (v := (-2)) hx hb dX6_child_11 (by decide +kernel) ?_
    have hE9 : r_child x ag = ((-2), mS x) := (by (try unfold r_child); (repeat rw [if_neg h_1]); first | done | rfl)
    exact wr_iret hx hb hr hlocks dX6_child_13 hS (by rw [hE9]; exact f_s) (by rw [hE9]; first | done | rfl)
theorem c2_X6_child (l : Launch) (G : GG) (M : Nat → Nat) (x : MT) (ag : Int32)  (hI : mI (mS x)) (hO : mO (mS x)) (hN : mN M) (r9 : Int32) (sv9 : Nat → Int32) (hy9 : r_child x ag = (r9, sv9)) : Met l yX6_child wsX6_child { frames := 1, cells := 0, slots := 0, locals := 22 } (roP G [.ref (M 0), .int ag] (fun H => MAt G M x H)) (wrQ (some (.int r9)) (fun H => MAt G M (mSetS x sv9) H) (m1 M)) 0 0 (m1 M) := by
  have h9 := c_X6_child l G M x ag hI hO hN
  rw [hy9] at h9
  exact h9
theorem i_X6_grow_X6 : ∀ w ∈ wsX60, w ∈ wsX6_grow := fun _ h => List.mem_cons_of_mem _ (List.mem_append_right _ h)
theorem k_X6_grow_fieldLink_9 : Cond.fieldLink RX6 9 "SameWaterModel" "s" "[I" ∈ wsX6_grow := by decide +kernel
def r_growGo (x : MT) (nn : Int32) : Nat → Nat → (Nat → Int32) → Int32 × (Nat → Int32)
  | 0, _, sv_k => (sv_k (0 : Int32).toNatClampNeg, sv_k)
  | n + 1, k, sv_k => r_growGo x nn n (k + 1) (upd sv_k (130 + (nI k)).toNatClampNeg (if ((sv_k (130 + (nI k)).toNatClampNeg) + nn) ≤ 120 then (sv_k (130 + (nI k)).toNatClampNeg) + nn else 120))
theorem r_growGo_0 (x : MT) (nn : Int32) (k : Nat) (sv_k : Nat → Int32) : r_growGo x nn 0 k sv_k = ((sv_k (0 : Int32).toNatClampNeg, sv_k)) := rfl
theorem r_growGo_s (x : MT) (nn : Int32) (n k : Nat) (sv_k : Nat → Int32) : r_growGo x nn (n + 1) k sv_k = (r_growGo x nn n (k + 1) (upd sv_k (130 + (nI k)).toNatClampNeg (if ((sv_k (130 + (nI k)).toNatClampNeg) + nn) ≤ 120 then (sv_k (130 + (nI k)).toNatClampNeg) + nn else 120))) := rfl
def r_grow (x : MT) (nn : Int32) : Int32 × (Nat → Int32) := if (r_in nn 1 60) = true then r_growGo x nn (((mS x) (0 : Int32).toNatClampNeg).toNatClampNeg) 0 (mS x) else ((-2), mS x)
set_option maxHeartbeats 400000 in
set_option maxRecDepth 100000 in
theorem c_X6_grow (l : Launch) (G : GG) (M : Nat → Nat) (x : MT) (nn : Int32)  (hI : mI (mS x)) (hO : mO (mS x)) (hN : mN M) : Met l yX6_grow wsX6_grow { frames := 1, cells := 0, slots := 0, locals := 22 } (roP G [.ref (M 0), .int nn] (fun H => MAt G M x H)) (wrQ (some (.int ((r_grow x nn).1))) (fun H => MAt G M (mSetS x ((r_grow x nn).2)) H) (m1 M)) 0 0 (m1 M) := by
  refine Met.ofW (cc := cX6_grow) (maxL := 3) (ret := (some .int)) (by decide) rfl ?_
  intro p e s m args below meth c s₁ Bd hml hv
  obtain ⟨rfl, hK, hB⟩ := hv
  have hx := Bd.exec
  have hb := Bd.bytes
  have hr := Bd.returns
  have hts := atoms_spec (ws := wsX6_grow) Bd.pre
  have hown : s.vm.findClass RX6 = some m.cls := findClass_of_methodNamed Bd.named
  have hlocks := Bd.notSynchronized
  have hC : CallFix p m c cX6_grow 3 s _ wsX6_grow RX6 := ⟨hx, hb, hml, hown, hts⟩
  have hl := lv_entry ([.ref (M 0), .int nn]) (n := 3) (Nat.le_of_ble_eq_true rfl)
  rw [lg_entry_eq]
  generalize (lg_sl ([.ref (M 0), .int nn]) ++ List.replicate (3 - (lg_sl ([.ref (M 0), .int nn])).length) Slot.unset).toArray = ls at hl ⊢
  have hl : lv_has ls 3 [(0, .ref (M 0)), (1, .int nn)] := hl
  have hS : wS (m1 M) s.heap s.heap [] := wS.rf
  have f_s : MAt G M (mSetS x (mS x)) s.heap := hB
  have hZ := trivial
  have hC0 : ib 0 8 ((mS x) (0 : Int32).toNatClampNeg) := hI 0 (0, 0, 0, 8) (by decide) (Nat.le_refl _) (Nat.le_refl _)
  have hD0 : ((mS x) (0 : Int32).toNatClampNeg).toNatClampNeg ≤ 8 := by have := (hC0.clamp (by decide)).2; omega
  refine lv_iload_n hx hb dX6_grow_0 rfl (lv_at hl 1 rfl) ?_
  refine lv_iconst (v := 1) hx hb dX6_grow_1 (by decide) ?_
  refine lv_bipush (v := 60) hx hb dX6_grow_2 (by decide +kernel) ?_
  refine ro_call (va_runS (As := [.int nn, .int 1, .int 60]) (rest := []) hC (c_X6_in l G nn 1 60) (va_cwS 3 hts gX6_grow_X6_in rfl rfl rfl kd_X6_in ⟨Nat.le_of_ble_eq_true rfl, Nat.le_of_ble_eq_true rfl⟩) (ro_preS hK trivial) rfl rfl hl.1 rfl (lv_room (Nat.le_of_ble_eq_true rfl)) dX6_grow_4 ⟨Nat.zero_le _, Nat.zero_le _⟩) ?_
  refine bz_ne (tgt := 13) hx hb dX6_grow_7 (by decide) (fun h_1 => ?_) (fun h_1 => ?_)
  · have h_1 : (r_in nn 1 60) = true := h_1
    refine lv_iconst (v := 0) hx hb dX6_grow_13 (by decide) ?_
    refine lv_istore_n (lv' := [(2, .int 0), (0, .ref (M 0)), (1, .int nn)]) hx hb dX6_grow_14 rfl hl (by decide) rfl (fun ls hl => ?_)
    refine loop_wr (nL := 3) (α := Nat × (Nat → Int32)) (fun a9 => [(0, .ref (M 0)), (1, .int nn), (2, .int (nI (a9.1)))]) (fun a9 H locs => ((a9.1 ≤ ((mS x) (0 : Int32).toNatClampNeg).toNatClampNeg ∧ r_growGo x nn ((((mS x) (0 : Int32).toNatClampNeg).toNatClampNeg) - a9.1) a9.1 a9.2 = r_growGo x nn (((mS x) (0 : Int32).toNatClampNeg).toNatClampNeg) 0 (mS x)) ∧ ((a9.2) 0 = mS x 0)) ∧ (MAt G M (mSetS x (a9.2)) H) ∧ wS (m1 M) s.heap H locs ∧ True) (fun a9 => ((mS x) (0 : Int32).toNatClampNeg).toNatClampNeg - a9.1) (0, mS x) ⟨⟨⟨(by first | exact Nat.zero_le _ | decide | omega), rfl⟩, rfl⟩, f_s, hS, hZ⟩ (lv_sub hl [1, 2, 0] rfl) (fun a9 H locs hI9 ih_k ls hl => ?_)
    obtain ⟨k, sv_k⟩ := a9
    obtain ⟨⟨hI9, hX9⟩, f_s, hS, hZ⟩ := hI9
    have hX9 : sv_k 0 = mS x 0 := hX9
    have f_s : MAt G M (mSetS x sv_k) H := f_s
    obtain ⟨hk_k, hV⟩ : k ≤ ((mS x) (0 : Int32).toNatClampNeg).toNatClampNeg ∧ r_growGo x nn ((((mS x) (0 : Int32).toNatClampNeg).toNatClampNeg) - k) k sv_k = r_growGo x nn (((mS x) (0 : Int32).toNatClampNeg).toNatClampNeg) 0 (mS x) := hI9
    have hl : lv_has ls 3 [(0, .ref (M 0)), (1, .int nn), (2, .int (nI k))] := hl
    refine lv_iload_n hx hb dX6_grow_15 rfl (lv_at hl 2 rfl) ?_
    refine lv_aload_n hx hb dX6_grow_16 rfl (lv_at hl 0 rfl) ?_
    refine r_get (C := RX6) (T := TX6) (N := 18) hx hb hts i_X6_grow_X6 hown hK f_s.1 rfl 1 (by decide) k_X6_grow_fieldLink_9 rfl rfl dX6_grow_17 ?_
    refine lv_iconst (v := 0) hx hb dX6_grow_20 (by decide) ?_
    refine r_iald hx hb hK f_s.2.1 (vp_ib (lo := 0) (hi := 0) (ib_nI (n := 0) (by decide)) (by decide) (by decide)) dX6_grow_21 ?_
    refine lv_icmp_ge (tgt := 75) hx hb dX6_grow_22 (by decide) (fun h_2 => ?_) (fun h_2 => ?_)
    · have hN_k : k = ((mS x) (0 : Int32).toNatClampNeg).toNatClampNeg := ge_ex (N := ((mS x) (0 : Int32).toNatClampNeg).toNatClampNeg) ((show sv_k (0 : Int32).toNatClampNeg = (mS x) (0 : Int32).toNatClampNeg from hX9).trans (cnt_beq hC0 (by decide))) h_2 hk_k (by omega)
      subst hN_k
      rw [Nat.sub_self] at hV
      refine lv_aload_n hx hb dX6_grow_75 rfl (lv_at hl 0 rfl) ?_
      refine r_get (C := RX6) (T := TX6) (N := 18) hx hb hts i_X6_grow_X6 hown hK f_s.1 rfl 1 (by decide) k_X6_grow_fieldLink_9 rfl rfl dX6_grow_76 ?_
      refine lv_iconst (v := 0) hx hb dX6_grow_79 (by decide) ?_
      refine r_iald hx hb hK f_s.2.1 (vp_ib (lo := 0) (hi := 0) (ib_nI (n := 0) (by decide)) (by decide) (by decide)) dX6_grow_80 ?_
      have hE9 : r_grow x nn = (sv_k (0 : Int32).toNatClampNeg, sv_k) := (by (try unfold r_grow); (repeat rw [if_pos h_1]); rw [← hV, r_growGo_0]; first | done | rfl)
      exact wr_iret hx hb hr hlocks dX6_grow_81 hS (by rw [hE9]; exact f_s) (by rw [hE9]; first | done | rfl)
    · have hlt_k : k < ((mS x) (0 : Int32).toNatClampNeg).toNatClampNeg := ge_in (N := ((mS x) (0 : Int32).toNatClampNeg).toNatClampNeg) ((show sv_k (0 : Int32).toNatClampNeg = (mS x) (0 : Int32).toNatClampNeg from hX9).trans (cnt_beq hC0 (by decide))) h_2 hk_k (by omega)
      obtain ⟨n9, hn9⟩ : ∃ n9, (((mS x) (0 : Int32).toNatClampNeg).toNatClampNeg) - k = n9 + 1 := ⟨(((mS x) (0 : Int32).toNatClampNeg).toNatClampNeg) - k - 1, by omega⟩
      rw [hn9] at hV
      refine lv_aload_n hx hb dX6_grow_25 rfl (lv_at hl 0 rfl) ?_
      refine r_get (C := RX6) (T := TX6) (N := 18) hx hb hts i_X6_grow_X6 hown hK f_s.1 rfl 1 (by decide) k_X6_grow_fieldLink_9 rfl rfl dX6_grow_26 ?_
      refine lv_sipush (v := 130) hx hb dX6_grow_29 (by decide +kernel) ?_
      refine lv_iload_n hx hb dX6_grow_32 rfl (lv_at hl 2 rfl) ?_
      refine lv_iadd hx hb dX6_grow_33 ?_
      refine lv_aload_n hx hb dX6_grow_34 rfl (lv_at hl 0 rfl) ?_
      refine r_get (C := RX6) (T := TX6) (N := 18) hx hb hts i_X6_grow_X6 hown hK f_s.1 rfl 1 (by decide) k_X6_grow_fieldLink_9 rfl rfl dX6_grow_35 ?_
      refine lv_sipush (v := 130) hx hb dX6_grow_38 (by decide +kernel) ?_
      refine lv_iload_n hx hb dX6_grow_41 rfl (lv_at hl 2 rfl) ?_
      refine lv_iadd hx hb dX6_grow_42 ?_
      refine r_iald hx hb hK f_s.2.1 (vp_ib (lo := 130) (hi := 137) (ib_add (ib_nI (n := 130) (by decide)) (ib_ltc hC0 (by omega) (by decide)) (by decide) (by decide)) (by decide) (by decide)) dX6_grow_43 ?_
      refine lv_iload_n hx hb dX6_grow_44 rfl (lv_at hl 1 rfl) ?_
      refine lv_iadd hx hb dX6_grow_45 ?_
      refine lv_bipush (v := 120) hx hb dX6_grow_46 (by decide +kernel) ?_
      refine join_wr (nL := 3) 68 [(0, .ref (M 0)), (1, .int nn), (2, .int (nI k))] [.int (if ((sv_k (130 + (nI k)).toNatClampNeg) + nn) ≤ 120 then (sv_k (130 + (nI k)).toNatClampNeg) + nn else 120), .int (130 + (nI k)), .ref (M 1)] (fun H locs => (MAt G M (mSetS x sv_k) H) ∧ wS (m1 M) s.heap H locs ∧ True) (fun H locs hI ls hl => ?_) (fun J_3 => ?_)
      · obtain ⟨f_s, hS, hZ⟩ := hI
        refine w_iast hx hb hK f_s.2.1 hS rfl (vp_ib (lo := 130) (hi := 137) (ib_add (ib_nI (n := 130) (by decide)) (ib_ltc hC0 (by omega) (by decide)) (by decide) (by decide)) (by decide) (by decide)) dX6_grow_68 (fun H locs hn hq hS => ?_)
        have f_s : MAt G M (mSetS x (upd sv_k (130 + (nI k)).toNatClampNeg (if ((sv_k (130 + (nI k)).toNatClampNeg) + nn) ≤ 120 then (sv_k (130 + (nI k)).toNatClampNeg) + nn else 120))) H := f_s.putS hN hn hq rfl rfl rfl rfl
        refine lv_iinc (v := (nI k) + 1) (lv' := [(2, .int ((nI k) + 1)), (0, .ref (M 0)), (1, .int nn)]) hx hb dX6_grow_69 hl (k := 2) rfl rfl (by decide) rfl (fun ls hl => ?_)
        refine lv_goto (tgt := 15) hx hb dX6_grow_72 (by decide) ?_
        have hE : r_growGo x nn n9 (k + 1) (upd sv_k (130 + (nI k)).toNatClampNeg (if ((sv_k (130 + (nI k)).toNatClampNeg) + nn) ≤ 120 then (sv_k (130 + (nI k)).toNatClampNeg) + nn else 120)) = r_growGo x nn (((mS x) (0 : Int32).toNatClampNeg).toNatClampNeg) 0 (mS x) := (by rw [← hV, r_growGo_s]; first | done | rfl)
        refine ih_k ((k + 1, upd sv_k (130 + (nI k)).toNatClampNeg (if ((sv_k (130 + (nI k)).toNatClampNeg) + nn) ≤ 120 then (sv_k (130 + (nI k)).toNatClampNeg) + nn else 120))) _ _ ⟨⟨⟨(show k + 1 ≤ ((mS x) (0 : Int32).toNatClampNeg).toNatClampNeg by omega), (by show r_growGo x nn ((((mS x) (0 : Int32).toNatClampNeg).toNatClampNeg) - (k + 1)) (k + 1) (upd sv_k (130 + (nI k)).toNatClampNeg (if ((sv_k (130 + (nI k)).toNatClampNeg) + nn) ≤ 120 then (sv_k (130 + (nI k)).toNatClampNeg) + nn else 120)) = _; rw [show (((mS x) (0 : Int32).toNatClampNeg).toNatClampNeg) - (k + 1) = n9 by omega]; exact hE)⟩, (by show upd sv_k (130 + nI k).toNatClampNeg _ 0 = mS x 0; rw [upd_ne (f := sv_k) (i := (130 + nI k).toNatClampNeg) (j := 0) (by have : 130 ≤ (130 + nI k).toNatClampNeg := ib_c (lo := 130) (ib_add (ib_nI (n := 130) (by decide)) (ib_ltc hC0 (by omega) (by decide)) (by decide) (by decide)) (by decide); omega)]; exact hX9)⟩, f_s, hS, hZ⟩ (show (((mS x) (0 : Int32).toNatClampNeg).toNatClampNeg) - (k + 1) < (((mS x) (0 : Int32).toNatClampNeg).toNatClampNeg) - k by omega) ls ?_
        show lv_has ls 3 [(0, .ref (M 0)), (1, .int nn), (2, .int (nI (k + 1)))]
        rw [nI_succ]
        exact lv_sub hl [1, 2, 0] rfl
      · refine lv_icmp_le (tgt := 56) hx hb dX6_grow_48 (by decide) (fun h_4 => ?_) (fun h_4 => ?_)
        · have h_4 : ((sv_k (130 + (nI k)).toNatClampNeg) + nn) ≤ 120 := h_4
          refine lv_aload_n hx hb dX6_grow_56 rfl (lv_at hl 0 rfl) ?_
          refine r_get (C := RX6) (T := TX6) (N := 18) hx hb hts i_X6_grow_X6 hown hK f_s.1 rfl 1 (by decide) k_X6_grow_fieldLink_9 rfl rfl dX6_grow_57 ?_
          refine lv_sipush (v := 130) hx hb dX6_grow_60 (by decide +kernel) ?_
          refine lv_iload_n hx hb dX6_grow_63 rfl (lv_at hl 2 rfl) ?_
          refine lv_iadd hx hb dX6_grow_64 ?_
          refine r_iald hx hb hK f_s.2.1 (vp_ib (lo := 130) (hi := 137) (ib_add (ib_nI (n := 130) (by decide)) (ib_ltc hC0 (by omega) (by decide)) (by decide) (by decide)) (by decide) (by decide)) dX6_grow_65 ?_
          refine lv_iload_n hx hb dX6_grow_66 rfl (lv_at hl 1 rfl) ?_
          refine lv_iadd hx hb dX6_grow_67 ?_
          have hJ := J_3; (repeat rw [if_pos h_4] at hJ)
          (repeat rw [if_pos h_4] at f_s)
          first | exact hJ _ _ ⟨f_s, hS, hZ⟩ ls (lv_sub hl [0, 1, 2] rfl) | ((repeat rw [if_pos h_4] at hl); (repeat rw [if_pos h_4]); (repeat rw [if_pos h_4] at f_s); exact hJ _ _ ⟨f_s, hS, hZ⟩ ls (lv_sub hl [0, 1, 2] rfl))
        · have h_4 : ¬ (((sv_k (130 + (nI k)).toNatClampNeg) + nn) ≤ 120) := h_4
          refine lv_bipush (v := 120) hx hb dX6_grow_51 (by decide +kernel) ?_
          refine lv_goto (tgt := 68) hx hb dX6_grow_53 (by decide) ?_
          have hJ := J_3; (repeat rw [if_neg h_4] at hJ)
          (repeat rw [if_neg h_4] at f_s)
          first | exact hJ _ _ ⟨f_s, hS, hZ⟩ ls (lv_sub hl [0, 1, 2] rfl) | ((repeat rw [if_neg h_4] at hl); (repeat rw [if_neg h_4]); (repeat rw [if_neg h_4] at f_s); exact hJ _ _ ⟨f_s, hS, hZ⟩ ls (lv_sub hl [0, 1, 2] rfl))
  · have h_1 : ¬ ((r_in nn 1 60) = true) := h_1
    refine lv_bipush (v := (-2)) hx hb dX6_grow_10 (by decide +kernel) ?_
    have hE9 : r_grow x nn = ((-2), mS x) := (by (try unfold r_grow); (repeat rw [if_neg h_1]); first | done | rfl)
    exact wr_iret hx hb hr hlocks dX6_grow_12 hS (by rw [hE9]; exact f_s) (by rw [hE9]; first | done | rfl)
theorem c2_X6_grow (l : Launch) (G : GG) (M : Nat → Nat) (x : MT) (nn : Int32)  (hI : mI (mS x)) (hO : mO (mS x)) (hN : mN M) (r9 : Int32) (sv9 : Nat → Int32) (hy9 : r_grow x nn = (r9, sv9)) : Met l yX6_grow wsX6_grow { frames := 1, cells := 0, slots := 0, locals := 22 } (roP G [.ref (M 0), .int nn] (fun H => MAt G M x H)) (wrQ (some (.int r9)) (fun H => MAt G M (mSetS x sv9) H) (m1 M)) 0 0 (m1 M) := by
  have h9 := c_X6_grow l G M x nn hI hO hN
  rw [hy9] at h9
  exact h9
theorem i_X6_teach_X6 : ∀ w ∈ wsX60, w ∈ wsX6_teach := fun _ h => List.mem_cons_of_mem _ (List.mem_append_right _ h)
theorem k_X6_teach_fieldLink_9 : Cond.fieldLink RX6 9 "SameWaterModel" "s" "[I" ∈ wsX6_teach := by decide +kernel
def r_teach (x : MT) (child : Int32) (stuff : Int32) : Int32 × (Nat → Int32) := if (r_isChild x child) = true then if (r_isStuff stuff) = true then (b2i (if (if ((mS x) ((138 + (4 * child)) + stuff).toNatClampNeg) = (-1) then false else true) = true then false else true), upd (mS x) ((138 + (4 * child)) + stuff).toNatClampNeg (if (if ((mS x) ((138 + (4 * child)) + stuff).toNatClampNeg) = (-1) then false else true) = true then (mS x) ((138 + (4 * child)) + stuff).toNatClampNeg else (mS x) (130 + child).toNatClampNeg)) else ((-1), mS x) else ((-1), mS x)
set_option maxHeartbeats 400000 in
set_option maxRecDepth 100000 in
theorem c_X6_teach (l : Launch) (G : GG) (M : Nat → Nat) (x : MT) (child : Int32) (stuff : Int32)  (hI : mI (mS x)) (hO : mO (mS x)) (hN : mN M) : Met l yX6_teach wsX6_teach { frames := 2, cells := 0, slots := 0, locals := 43 } (roP G [.ref (M 0), .int child, .int stuff] (fun H => MAt G M x H)) (wrQ (some (.int ((r_teach x child stuff).1))) (fun H => MAt G M (mSetS x ((r_teach x child stuff).2)) H) (m1 M)) 0 0 (m1 M) := by
  refine Met.ofW (cc := cX6_teach) (maxL := 5) (ret := (some .int)) (by decide) rfl ?_
  intro p e s m args below meth c s₁ Bd hml hv
  obtain ⟨rfl, hK, hB⟩ := hv
  have hx := Bd.exec
  have hb := Bd.bytes
  have hr := Bd.returns
  have hts := atoms_spec (ws := wsX6_teach) Bd.pre
  have hown : s.vm.findClass RX6 = some m.cls := findClass_of_methodNamed Bd.named
  have hlocks := Bd.notSynchronized
  have hC : CallFix p m c cX6_teach 5 s _ wsX6_teach RX6 := ⟨hx, hb, hml, hown, hts⟩
  have hl := lv_entry ([.ref (M 0), .int child, .int stuff]) (n := 5) (Nat.le_of_ble_eq_true rfl)
  rw [lg_entry_eq]
  generalize (lg_sl ([.ref (M 0), .int child, .int stuff]) ++ List.replicate (5 - (lg_sl ([.ref (M 0), .int child, .int stuff])).length) Slot.unset).toArray = ls at hl ⊢
  have hl : lv_has ls 5 [(0, .ref (M 0)), (1, .int child), (2, .int stuff)] := hl
  have hS : wS (m1 M) s.heap s.heap [] := wS.rf
  have f_s : MAt G M (mSetS x (mS x)) s.heap := hB
  have hZ := trivial
  refine lv_aload_n hx hb dX6_teach_0 rfl (lv_at hl 0 rfl) ?_
  refine lv_iload_n hx hb dX6_teach_1 rfl (lv_at hl 1 rfl) ?_
  refine ro_call (va_runV (As := [.int child]) (rest := []) hC (c_X6_isChild l G M x child) (cwV 1 hts gX6_teach_X6_isChild rfl rfl rfl kd_X6_isChild ⟨Nat.le_of_ble_eq_true rfl, Nat.le_of_ble_eq_true rfl⟩) (ro_preV hK f_s.1 rfl f_s) rfl rfl hl.1 rfl (lv_room (Nat.le_of_ble_eq_true rfl)) dX6_teach_2 ⟨Nat.zero_le _, Nat.zero_le _⟩) ?_
  refine bz_eq (tgt := 15) hx hb dX6_teach_5 (by decide) (fun h_1 => ?_) (fun h_1 => ?_)
  · have h_1 : ¬ ((r_isChild x child) = true) := h_1
    refine lv_iconst (v := (-1)) hx hb dX6_teach_15 (by decide) ?_
    have hE9 : r_teach x child stuff = ((-1), mS x) := (by (try unfold r_teach); (repeat rw [if_neg h_1]); first | done | rfl)
    exact wr_iret hx hb hr hlocks dX6_teach_16 hS (by rw [hE9]; exact f_s) (by rw [hE9]; first | done | rfl)
  · have h_1 : (r_isChild x child) = true := h_1
    refine lv_iload_n hx hb dX6_teach_8 rfl (lv_at hl 2 rfl) ?_
    refine ro_call (va_runS (As := [.int stuff]) (rest := []) hC (c_X6_isStuff l G stuff) (va_cwS 1 hts gX6_teach_X6_isStuff rfl rfl rfl kd_X6_isStuff ⟨Nat.le_of_ble_eq_true rfl, Nat.le_of_ble_eq_true rfl⟩) (ro_preS hK trivial) rfl rfl hl.1 rfl (lv_room (Nat.le_of_ble_eq_true rfl)) dX6_teach_9 ⟨Nat.zero_le _, Nat.zero_le _⟩) ?_
    refine bz_ne (tgt := 17) hx hb dX6_teach_12 (by decide) (fun h_2 => ?_) (fun h_2 => ?_)
    · have h_2 : (r_isStuff stuff) = true := h_2
      refine lv_sipush (v := 138) hx hb dX6_teach_17 (by decide +kernel) ?_
      refine lv_iconst (v := 4) hx hb dX6_teach_20 (by decide) ?_
      refine lv_iload_n hx hb dX6_teach_21 rfl (lv_at hl 1 rfl) ?_
      refine lv_imul hx hb dX6_teach_22 ?_
      refine lv_iadd hx hb dX6_teach_23 ?_
      refine lv_iload_n hx hb dX6_teach_24 rfl (lv_at hl 2 rfl) ?_
      refine lv_iadd hx hb dX6_teach_25 ?_
      refine lv_istore_n (lv' := [(3, .int ((138 + (4 * child)) + stuff)), (0, .ref (M 0)), (1, .int child), (2, .int stuff)]) hx hb dX6_teach_26 rfl hl (by decide) rfl (fun ls hl => ?_)
      refine lv_aload_n hx hb dX6_teach_27 rfl (lv_at hl 1 rfl) ?_
      refine r_get (C := RX6) (T := TX6) (N := 18) hx hb hts i_X6_teach_X6 hown hK f_s.1 rfl 1 (by decide) k_X6_teach_fieldLink_9 rfl rfl dX6_teach_28 ?_
      refine lv_iload_n hx hb dX6_teach_31 rfl (lv_at hl 0 rfl) ?_
      refine r_iald hx hb hK f_s.2.1 (vp_ib (lo := 138) (hi := 169) (ib_add (ib_add (ib_nI (n := 138) (by decide)) (ib_mulk (k := 4) (isChild_ib hI h_1) (by decide) (by decide) (by decide)) (by decide) (by decide)) (isStuff_ib h_2) (by decide) (by decide)) (by decide) (by decide)) dX6_teach_32 ?_
      refine lv_iconst (v := (-1)) hx hb dX6_teach_33 (by decide) ?_
      refine join_wr (nL := 5) 42 [(3, .int ((138 + (4 * child)) + stuff)), (0, .ref (M 0)), (1, .int child), (2, .int stuff)] [.int (b2i (if ((mS x) ((138 + (4 * child)) + stuff).toNatClampNeg) = (-1) then false else true))] (fun H locs => (MAt G M (mSetS x (mS x)) H) ∧ wS (m1 M) s.heap H locs ∧ True) (fun H locs hI ls hl => ?_) (fun J_3 => ?_)
      · obtain ⟨f_s, hS, hZ⟩ := hI
        refine lv_istore (lv' := [(4, .int (b2i (if ((mS x) ((138 + (4 * child)) + stuff).toNatClampNeg) = (-1) then false else true))), (3, .int ((138 + (4 * child)) + stuff)), (0, .ref (M 0)), (1, .int child), (2, .int stuff)]) hx hb dX6_teach_42 hl (by decide) rfl (fun ls hl => ?_)
        refine lv_aload_n hx hb dX6_teach_44 rfl (lv_at hl 2 rfl) ?_
        refine r_get (C := RX6) (T := TX6) (N := 18) hx hb hts i_X6_teach_X6 hown hK f_s.1 rfl 1 (by decide) k_X6_teach_fieldLink_9 rfl rfl dX6_teach_45 ?_
        refine lv_iload_n hx hb dX6_teach_48 rfl (lv_at hl 1 rfl) ?_
        refine lv_iload hx hb dX6_teach_49 (lv_at hl 0 rfl) ?_
        refine join_wr (nL := 5) 73 [(4, .int (b2i (if ((mS x) ((138 + (4 * child)) + stuff).toNatClampNeg) = (-1) then false else true))), (3, .int ((138 + (4 * child)) + stuff)), (0, .ref (M 0)), (1, .int child), (2, .int stuff)] [.int (if (if ((mS x) ((138 + (4 * child)) + stuff).toNatClampNeg) = (-1) then false else true) = true then (mS x) ((138 + (4 * child)) + stuff).toNatClampNeg else (mS x) (130 + child).toNatClampNeg), .int ((138 + (4 * child)) + stuff), .ref (M 1)] (fun H locs => (MAt G M (mSetS x (mS x)) H) ∧ wS (m1 M) s.heap H locs ∧ True) (fun H locs hI ls hl => ?_) (fun J_4 => ?_)
        · obtain ⟨f_s, hS, hZ⟩ := hI
          refine w_iast hx hb hK f_s.2.1 hS rfl (vp_ib (lo := 138) (hi := 169) (ib_add (ib_add (ib_nI (n := 138) (by decide)) (ib_mulk (k := 4) (isChild_ib hI h_1) (by decide) (by decide) (by decide)) (by decide) (by decide)) (isStuff_ib h_2) (by decide) (by decide)) (by decide) (by decide)) dX6_teach_73 (fun H locs hn hq hS => ?_)
          have f_s : MAt G M (mSetS x (upd (mS x) ((138 + (4 * child)) + stuff).toNatClampNeg (if (if ((mS x) ((138 + (4 * child)) + stuff).toNatClampNeg) = (-1) then false else true) = true then (mS x) ((138 + (4 * child)) + stuff).toNatClampNeg else (mS x) (130 + child).toNatClampNeg))) H := f_s.putS hN hn hq rfl rfl rfl rfl
          refine lv_iload hx hb dX6_teach_74 (lv_at hl 0 rfl) ?_
          refine join_wr (nL := 5) 84 [(4, .int (b2i (if ((mS x) ((138 + (4 * child)) + stuff).toNatClampNeg) = (-1) then false else true))), (3, .int ((138 + (4 * child)) + stuff)), (0, .ref (M 0)), (1, .int child), (2, .int stuff)] [.int (b2i (if (if ((mS x) ((138 + (4 * child)) + stuff).toNatClampNeg) = (-1) then false else true) = true then false else true))] (fun H locs => (MAt G M (mSetS x (upd (mS x) ((138 + (4 * child)) + stuff).toNatClampNeg (if (if ((mS x) ((138 + (4 * child)) + stuff).toNatClampNeg) = (-1) then false else true) = true then (mS x) ((138 + (4 * child)) + stuff).toNatClampNeg else (mS x) (130 + child).toNatClampNeg))) H) ∧ wS (m1 M) s.heap H locs ∧ True) (fun H locs hI ls hl => ?_) (fun J_5 => ?_)
          · obtain ⟨f_s, hS, hZ⟩ := hI
            have hE9 : r_teach x child stuff = (b2i (if (if ((mS x) ((138 + (4 * child)) + stuff).toNatClampNeg) = (-1) then false else true) = true then false else true), upd (mS x) ((138 + (4 * child)) + stuff).toNatClampNeg (if (if ((mS x) ((138 + (4 * child)) + stuff).toNatClampNeg) = (-1) then false else true) = true then (mS x) ((138 + (4 * child)) + stuff).toNatClampNeg else (mS x) (130 + child).toNatClampNeg)) := (by (try unfold r_teach); (repeat rw [if_pos h_1]); (repeat rw [if_pos h_2]); first | done | rfl)
            exact wr_iret hx hb hr hlocks dX6_teach_84 hS (by rw [hE9]; exact f_s) (by rw [hE9]; first | done | rfl)
          · refine bz_eq (tgt := 83) hx hb dX6_teach_76 (by decide) (fun h_6 => ?_) (fun h_6 => ?_)
            · have h_6 : ¬ ((if ((mS x) ((138 + (4 * child)) + stuff).toNatClampNeg) = (-1) then false else true) = true) := h_6
              refine lv_iconst (v := 1) hx hb dX6_teach_83 (by decide) ?_
              have hJ := J_5; (repeat rw [if_neg h_6] at hJ)
              (repeat rw [if_neg h_6] at f_s)
              first | exact hJ _ _ ⟨f_s, hS, hZ⟩ ls (lv_sub hl [0, 1, 2, 3, 4] rfl) | ((repeat rw [if_neg h_6] at hl); (repeat rw [if_neg h_6]); (repeat rw [if_neg h_6] at f_s); exact hJ _ _ ⟨f_s, hS, hZ⟩ ls (lv_sub hl [0, 1, 2, 3, 4] rfl))
            · have h_6 : (if ((mS x) ((138 + (4 * child)) + stuff).toNatClampNeg) = (-1) then false else true) = true := h_6
              refine lv_iconst (v := 0) hx hb dX6_teach_79 (by decide) ?_
              refine lv_goto (tgt := 84) hx hb dX6_teach_80 (by decide) ?_
              have hJ := J_5; (repeat rw [if_pos h_6] at hJ)
              (repeat rw [if_pos h_6] at f_s)
              first | exact hJ _ _ ⟨f_s, hS, hZ⟩ ls (lv_sub hl [0, 1, 2, 3, 4] rfl) | ((repeat rw [if_pos h_6] at hl); (repeat rw [if_pos h_6]); (repeat rw [if_pos h_6] at f_s); exact hJ _ _ ⟨f_s, hS, hZ⟩ ls (lv_sub hl [0, 1, 2, 3, 4] rfl))
        · refine bz_eq (tgt := 63) hx hb dX6_teach_51 (by decide) (fun h_7 => ?_) (fun h_7 => ?_)
          · have h_7 : ¬ ((if ((mS x) ((138 + (4 * child)) + stuff).toNatClampNeg) = (-1) then false else true) = true) := h_7
            refine lv_aload_n hx hb dX6_teach_63 rfl (lv_at hl 2 rfl) ?_
            refine r_get (C := RX6) (T := TX6) (N := 18) hx hb hts i_X6_teach_X6 hown hK f_s.1 rfl 1 (by decide) k_X6_teach_fieldLink_9 rfl rfl dX6_teach_64 ?_
            refine lv_sipush (v := 130) hx hb dX6_teach_67 (by decide +kernel) ?_
            refine lv_iload_n hx hb dX6_teach_70 rfl (lv_at hl 3 rfl) ?_
            refine lv_iadd hx hb dX6_teach_71 ?_
            refine r_iald hx hb hK f_s.2.1 (vp_ib (lo := 130) (hi := 137) (ib_add (ib_nI (n := 130) (by decide)) (isChild_ib hI h_1) (by decide) (by decide)) (by decide) (by decide)) dX6_teach_72 ?_
            have hJ := J_4; (repeat rw [if_neg h_7] at hJ)
            (repeat rw [if_neg h_7] at f_s)
            first | exact hJ _ _ ⟨f_s, hS, hZ⟩ ls (lv_sub hl [0, 1, 2, 3, 4] rfl) | ((repeat rw [if_neg h_7] at hl); (repeat rw [if_neg h_7]); (repeat rw [if_neg h_7] at f_s); exact hJ _ _ ⟨f_s, hS, hZ⟩ ls (lv_sub hl [0, 1, 2, 3, 4] rfl))
          · have h_7 : (if ((mS x) ((138 + (4 * child)) + stuff).toNatClampNeg) = (-1) then false else true) = true := h_7
            refine lv_aload_n hx hb dX6_teach_54 rfl (lv_at hl 2 rfl) ?_
            refine r_get (C := RX6) (T := TX6) (N := 18) hx hb hts i_X6_teach_X6 hown hK f_s.1 rfl 1 (by decide) k_X6_teach_fieldLink_9 rfl rfl dX6_teach_55 ?_
            refine lv_iload_n hx hb dX6_teach_58 rfl (lv_at hl 1 rfl) ?_
            refine r_iald hx hb hK f_s.2.1 (vp_ib (lo := 138) (hi := 169) (ib_add (ib_add (ib_nI (n := 138) (by decide)) (ib_mulk (k := 4) (isChild_ib hI h_1) (by decide) (by decide) (by decide)) (by decide) (by decide)) (isStuff_ib h_2) (by decide) (by decide)) (by decide) (by decide)) dX6_teach_59 ?_
            refine lv_goto (tgt := 73) hx hb dX6_teach_60 (by decide) ?_
            have hJ := J_4; (repeat rw [if_pos h_7] at hJ)
            (repeat rw [if_pos h_7] at f_s)
            first | exact hJ _ _ ⟨f_s, hS, hZ⟩ ls (lv_sub hl [0, 1, 2, 3, 4] rfl) | ((repeat rw [if_pos h_7] at hl); (repeat rw [if_pos h_7]); (repeat rw [if_pos h_7] at f_s); exact hJ _ _ ⟨f_s, hS, hZ⟩ ls (lv_sub hl [0, 1, 2, 3, 4] rfl))
      · refine lv_icmp_eq (tgt := 41) hx hb dX6_teach_34 (by decide) (fun h_8 => ?_) (fun h_8 => ?_)
        · have h_8 : ((mS x) ((138 + (4 * child)) + stuff).toNatClampNeg) = (-1) := h_8
          refine lv_iconst (v := 0) hx hb dX6_teach_41 (by decide) ?_
          have hJ := J_3; (repeat rw [if_pos h_8] at hJ)
          (repeat rw [if_pos h_8] at f_s)
          first | exact hJ _ _ ⟨f_s, hS, hZ⟩ ls (lv_sub hl [0, 1, 2, 3] rfl) | ((repeat rw [if_pos h_8] at hl); (repeat rw [if_pos h_8]); (repeat rw [if_pos h_8] at f_s); exact hJ _ _ ⟨f_s, hS, hZ⟩ ls (lv_sub hl [0, 1, 2, 3] rfl))
        · have h_8 : ¬ (((mS x) ((138 + (4 * child)) + stuff).toNatClampNeg) = (-1)) := h_8
          refine lv_iconst (v := 1) hx hb dX6_teach_37 (by decide) ?_
          refine lv_goto (tgt := 42) hx hb dX6_teach_38 (by decide) ?_
          have hJ := J_3; (repeat rw [if_neg h_8] at hJ)
          (repeat rw [if_neg h_8] at f_s)
          first | exact hJ _ _ ⟨f_s, hS, hZ⟩ ls (lv_sub hl [0, 1, 2, 3] rfl) | ((repeat rw [if_neg h_8] at hl); (repeat rw [if_neg h_8]); (repeat rw [if_neg h_8] at f_s); exact hJ _ _ ⟨f_s, hS, hZ⟩ ls (lv_sub hl [0, 1, 2, 3] rfl))
    · have h_2 : ¬ ((r_isStuff stuff) = true) := h_2
      refine lv_iconst (v := (-1)) hx hb dX6_teach_15 (by decide) ?_
      have hE9 : r_teach x child stuff = ((-1), mS x) := (by (try unfold r_teach); (repeat rw [if_pos h_1]); (repeat rw [if_neg h_2]); first | done | rfl)
      exact wr_iret hx hb hr hlocks dX6_teach_16 hS (by rw [hE9]; exact f_s) (by rw [hE9]; first | done | rfl)
theorem c2_X6_teach (l : Launch) (G : GG) (M : Nat → Nat) (x : MT) (child : Int32) (stuff : Int32)  (hI : mI (mS x)) (hO : mO (mS x)) (hN : mN M) (r9 : Int32) (sv9 : Nat → Int32) (hy9 : r_teach x child stuff = (r9, sv9)) : Met l yX6_teach wsX6_teach { frames := 2, cells := 0, slots := 0, locals := 43 } (roP G [.ref (M 0), .int child, .int stuff] (fun H => MAt G M x H)) (wrQ (some (.int r9)) (fun H => MAt G M (mSetS x sv9) H) (m1 M)) 0 0 (m1 M) := by
  have h9 := c_X6_teach l G M x child stuff hI hO hN
  rw [hy9] at h9
  exact h9
theorem i_X6_asking_X6 : ∀ w ∈ wsX60, w ∈ wsX6_asking := fun _ h => List.mem_cons_of_mem _ (List.mem_append_right _ h)
theorem k_X6_asking_fieldLink_9 : Cond.fieldLink RX6 9 "SameWaterModel" "s" "[I" ∈ wsX6_asking := by decide +kernel
def r_asking (x : MT) (stuff : Int32) (moved : Int32) (times : Int32) (eat : Bool) (word : Int32) (looks : Int32) (truly : Int32) : Int32 × (Nat → Int32) := if (r_isStuff stuff) = true then if (r_in moved 0 2) = true then if (r_in times 1 2) = true then if (r_in word 0 3) = true then if (r_in looks (-9) 9) = true then if (r_in truly (-1) 1) = true then if ((mS x) (1 : Int32).toNatClampNeg) = 16 then ((-4), mS x) else ((mS x) (1 : Int32).toNatClampNeg, upd (upd (upd (upd (upd (upd (upd (upd (mS x) (170 + ((mS x) (1 : Int32).toNatClampNeg)).toNatClampNeg stuff) (186 + ((mS x) (1 : Int32).toNatClampNeg)).toNatClampNeg moved) (202 + ((mS x) (1 : Int32).toNatClampNeg)).toNatClampNeg times) (218 + ((mS x) (1 : Int32).toNatClampNeg)).toNatClampNeg (b2i (if eat = true then true else false))) (234 + ((mS x) (1 : Int32).toNatClampNeg)).toNatClampNeg word) (250 + ((mS x) (1 : Int32).toNatClampNeg)).toNatClampNeg looks) (266 + ((mS x) (1 : Int32).toNatClampNeg)).toNatClampNeg truly) (1 : Int32).toNatClampNeg (((upd (upd (upd (upd (upd (upd (upd (mS x) (170 + ((mS x) (1 : Int32).toNatClampNeg)).toNatClampNeg stuff) (186 + ((mS x) (1 : Int32).toNatClampNeg)).toNatClampNeg moved) (202 + ((mS x) (1 : Int32).toNatClampNeg)).toNatClampNeg times) (218 + ((mS x) (1 : Int32).toNatClampNeg)).toNatClampNeg (b2i (if eat = true then true else false))) (234 + ((mS x) (1 : Int32).toNatClampNeg)).toNatClampNeg word) (250 + ((mS x) (1 : Int32).toNatClampNeg)).toNatClampNeg looks) (266 + ((mS x) (1 : Int32).toNatClampNeg)).toNatClampNeg truly) (1 : Int32).toNatClampNeg) + 1)) else ((-2), mS x) else ((-2), mS x) else ((-2), mS x) else ((-2), mS x) else ((-1), mS x) else ((-1), mS x)
set_option maxHeartbeats 400000 in
set_option maxRecDepth 100000 in
theorem c_X6_asking (l : Launch) (G : GG) (M : Nat → Nat) (x : MT) (stuff : Int32) (moved : Int32) (times : Int32) (eat : Bool) (word : Int32) (looks : Int32) (truly : Int32)  (hI : mI (mS x)) (hO : mO (mS x)) (hN : mN M) : Met l yX6_asking wsX6_asking { frames := 2, cells := 0, slots := 0, locals := 42 } (roP G [.ref (M 0), .int stuff, .int moved, .int times, .int (b2i eat), .int word, .int looks, .int truly] (fun H => MAt G M x H)) (wrQ (some (.int ((r_asking x stuff moved times eat word looks truly).1))) (fun H => MAt G M (mSetS x ((r_asking x stuff moved times eat word looks truly).2)) H) (m1 M)) 0 0 (m1 M) := by
  refine Met.ofW (cc := cX6_asking) (maxL := 9) (ret := (some .int)) (by decide) rfl ?_
  intro p e s m args below meth c s₁ Bd hml hv
  obtain ⟨rfl, hK, hB⟩ := hv
  have hx := Bd.exec
  have hb := Bd.bytes
  have hr := Bd.returns
  have hts := atoms_spec (ws := wsX6_asking) Bd.pre
  have hown : s.vm.findClass RX6 = some m.cls := findClass_of_methodNamed Bd.named
  have hlocks := Bd.notSynchronized
  have hC : CallFix p m c cX6_asking 9 s _ wsX6_asking RX6 := ⟨hx, hb, hml, hown, hts⟩
  have hl := lv_entry ([.ref (M 0), .int stuff, .int moved, .int times, .int (b2i eat), .int word, .int looks, .int truly]) (n := 9) (Nat.le_of_ble_eq_true rfl)
  rw [lg_entry_eq]
  generalize (lg_sl ([.ref (M 0), .int stuff, .int moved, .int times, .int (b2i eat), .int word, .int looks, .int truly]) ++ List.replicate (9 - (lg_sl ([.ref (M 0), .int stuff, .int moved, .int times, .int (b2i eat), .int word, .int looks, .int truly])).length) Slot.unset).toArray = ls at hl ⊢
  have hl : lv_has ls 9 [(0, .ref (M 0)), (1, .int stuff), (2, .int moved), (3, .int times), (4, .int (b2i eat)), (5, .int word), (6, .int looks), (7, .int truly)] := hl
  have hS : wS (m1 M) s.heap s.heap [] := wS.rf
  have f_s : MAt G M (mSetS x (mS x)) s.heap := hB
  have hZ := trivial
  refine lv_iload_n hx hb dX6_asking_0 rfl (lv_at hl 1 rfl) ?_
  refine ro_call (va_runS (As := [.int stuff]) (rest := []) hC (c_X6_isStuff l G stuff) (va_cwS 1 hts gX6_asking_X6_isStuff rfl rfl rfl kd_X6_isStuff ⟨Nat.le_of_ble_eq_true rfl, Nat.le_of_ble_eq_true rfl⟩) (ro_preS hK trivial) rfl rfl hl.1 rfl (lv_room (Nat.le_of_ble_eq_true rfl)) dX6_asking_1 ⟨Nat.zero_le _, Nat.zero_le _⟩) ?_
  refine bz_eq (tgt := 16) hx hb dX6_asking_4 (by decide) (fun h_1 => ?_) (fun h_1 => ?_)
  · have h_1 : ¬ ((r_isStuff stuff) = true) := h_1
    refine lv_iconst (v := (-1)) hx hb dX6_asking_16 (by decide) ?_
    have hE9 : r_asking x stuff moved times eat word looks truly = ((-1), mS x) := (by (try unfold r_asking); (repeat rw [if_neg h_1]); first | done | rfl)
    exact wr_iret hx hb hr hlocks dX6_asking_17 hS (by rw [hE9]; exact f_s) (by rw [hE9]; first | done | rfl)
  · have h_1 : (r_isStuff stuff) = true := h_1
    refine lv_iload_n hx hb dX6_asking_7 rfl (lv_at hl 2 rfl) ?_
    refine lv_iconst (v := 0) hx hb dX6_asking_8 (by decide) ?_
    refine lv_iconst (v := 2) hx hb dX6_asking_9 (by decide) ?_
    refine ro_call (va_runS (As := [.int moved, .int 0, .int 2]) (rest := []) hC (c_X6_in l G moved 0 2) (va_cwS 3 hts gX6_asking_X6_in rfl rfl rfl kd_X6_in ⟨Nat.le_of_ble_eq_true rfl, Nat.le_of_ble_eq_true rfl⟩) (ro_preS hK trivial) rfl rfl hl.1 rfl (lv_room (Nat.le_of_ble_eq_true rfl)) dX6_asking_10 ⟨Nat.zero_le _, Nat.zero_le _⟩) ?_
    refine bz_ne (tgt := 18) hx hb dX6_asking_13 (by decide) (fun h_2 => ?_) (fun h_2 => ?_)
    · have h_2 : (r_in moved 0 2) = true := h_2
      refine lv_iload_n hx hb dX6_asking_18 rfl (lv_at hl 3 rfl) ?_
      refine lv_iconst (v := 1) hx hb dX6_asking_19 (by decide) ?_
      refine lv_iconst (v := 2) hx hb dX6_asking_20 (by decide) ?_
      refine ro_call (va_runS (As := [.int times, .int 1, .int 2]) (rest := []) hC (c_X6_in l G times 1 2) (va_cwS 3 hts gX6_asking_X6_in rfl rfl rfl kd_X6_in ⟨Nat.le_of_ble_eq_true rfl, Nat.le_of_ble_eq_true rfl⟩) (ro_preS hK trivial) rfl rfl hl.1 rfl (lv_room (Nat.le_of_ble_eq_true rfl)) dX6_asking_21 ⟨Nat.zero_le _, Nat.zero_le _⟩) ?_
      refine bz_eq (tgt := 59) hx hb dX6_asking_24 (by decide) (fun h_3 => ?_) (fun h_3 => ?_)
      · have h_3 : ¬ ((r_in times 1 2) = true) := h_3
        refine lv_bipush (v := (-2)) hx hb dX6_asking_59 (by decide +kernel) ?_
        have hE9 : r_asking x stuff moved times eat word looks truly = ((-2), mS x) := (by (try unfold r_asking); (repeat rw [if_pos h_1]); (repeat rw [if_pos h_2]); (repeat rw [if_neg h_3]); first | done | rfl)
        exact wr_iret hx hb hr hlocks dX6_asking_61 hS (by rw [hE9]; exact f_s) (by rw [hE9]; first | done | rfl)
      · have h_3 : (r_in times 1 2) = true := h_3
        refine lv_iload hx hb dX6_asking_27 (lv_at hl 5 rfl) ?_
        refine lv_iconst (v := 0) hx hb dX6_asking_29 (by decide) ?_
        refine lv_iconst (v := 3) hx hb dX6_asking_30 (by decide) ?_
        refine ro_call (va_runS (As := [.int word, .int 0, .int 3]) (rest := []) hC (c_X6_in l G word 0 3) (va_cwS 3 hts gX6_asking_X6_in rfl rfl rfl kd_X6_in ⟨Nat.le_of_ble_eq_true rfl, Nat.le_of_ble_eq_true rfl⟩) (ro_preS hK trivial) rfl rfl hl.1 rfl (lv_room (Nat.le_of_ble_eq_true rfl)) dX6_asking_31 ⟨Nat.zero_le _, Nat.zero_le _⟩) ?_
        refine bz_eq (tgt := 59) hx hb dX6_asking_34 (by decide) (fun h_4 => ?_) (fun h_4 => ?_)
        · have h_4 : ¬ ((r_in word 0 3) = true) := h_4
          refine lv_bipush (v := (-2)) hx hb dX6_asking_59 (by decide +kernel) ?_
          have hE9 : r_asking x stuff moved times eat word looks truly = ((-2), mS x) := (by (try unfold r_asking); (repeat rw [if_pos h_1]); (repeat rw [if_pos h_2]); (repeat rw [if_pos h_3]); (repeat rw [if_neg h_4]); first | done | rfl)
          exact wr_iret hx hb hr hlocks dX6_asking_61 hS (by rw [hE9]; exact f_s) (by rw [hE9]; first | done | rfl)
        · have h_4 : (r_in word 0 3) = true := h_4
          refine lv_iload hx hb dX6_asking_37 (lv_at hl 6 rfl) ?_
          refine lv_bipush (v := (-9)) hx hb dX6_asking_39 (by decide +kernel) ?_
          refine lv_bipush (v := 9) hx hb dX6_asking_41 (by decide +kernel) ?_
          refine ro_call (va_runS (As := [.int looks, .int (-9), .int 9]) (rest := []) hC (c_X6_in l G looks (-9) 9) (va_cwS 3 hts gX6_asking_X6_in rfl rfl rfl kd_X6_in ⟨Nat.le_of_ble_eq_true rfl, Nat.le_of_ble_eq_true rfl⟩) (ro_preS hK trivial) rfl rfl hl.1 rfl (lv_room (Nat.le_of_ble_eq_true rfl)) dX6_asking_43 ⟨Nat.zero_le _, Nat.zero_le _⟩) ?_
          refine bz_eq (tgt := 59) hx hb dX6_asking_46 (by decide) (fun h_5 => ?_) (fun h_5 => ?_)
          · have h_5 : ¬ ((r_in looks (-9) 9) = true) := h_5
            refine lv_bipush (v := (-2)) hx hb dX6_asking_59 (by decide +kernel) ?_
            have hE9 : r_asking x stuff moved times eat word looks truly = ((-2), mS x) := (by (try unfold r_asking); (repeat rw [if_pos h_1]); (repeat rw [if_pos h_2]); (repeat rw [if_pos h_3]); (repeat rw [if_pos h_4]); (repeat rw [if_neg h_5]); first | done | rfl)
            exact wr_iret hx hb hr hlocks dX6_asking_61 hS (by rw [hE9]; exact f_s) (by rw [hE9]; first | done | rfl)
          · have h_5 : (r_in looks (-9) 9) = true := h_5
            refine lv_iload hx hb dX6_asking_49 (lv_at hl 7 rfl) ?_
            refine lv_iconst (v := (-1)) hx hb dX6_asking_51 (by decide) ?_
            refine lv_iconst (v := 1) hx hb dX6_asking_52 (by decide) ?_
            refine ro_call (va_runS (As := [.int truly, .int (-1), .int 1]) (rest := []) hC (c_X6_in l G truly (-1) 1) (va_cwS 3 hts gX6_asking_X6_in rfl rfl rfl kd_X6_in ⟨Nat.le_of_ble_eq_true rfl, Nat.le_of_ble_eq_true rfl⟩) (ro_preS hK trivial) rfl rfl hl.1 rfl (lv_room (Nat.le_of_ble_eq_true rfl)) dX6_asking_53 ⟨Nat.zero_le _, Nat.zero_le _⟩) ?_
            refine bz_ne (tgt := 62) hx hb dX6_asking_56 (by decide) (fun h_6 => ?_) (fun h_6 => ?_)
            · have h_6 : (r_in truly (-1) 1) = true := h_6
              refine lv_aload_n hx hb dX6_asking_62 rfl (lv_at hl 0 rfl) ?_
              refine r_get (C := RX6) (T := TX6) (N := 18) hx hb hts i_X6_asking_X6 hown hK f_s.1 rfl 1 (by decide) k_X6_asking_fieldLink_9 rfl rfl dX6_asking_63 ?_
              refine lv_iconst (v := 1) hx hb dX6_asking_66 (by decide) ?_
              refine r_iald hx hb hK f_s.2.1 (vp_ib (lo := 1) (hi := 1) (ib_nI (n := 1) (by decide)) (by decide) (by decide)) dX6_asking_67 ?_
              refine lv_bipush (v := 16) hx hb dX6_asking_68 (by decide +kernel) ?_
              refine lv_icmp_ne (tgt := 76) hx hb dX6_asking_70 (by decide) (fun h_7 => ?_) (fun h_7 => ?_)
              · have h_7 : ¬ (((mS x) (1 : Int32).toNatClampNeg) = 16) := h_7
                refine lv_aload_n hx hb dX6_asking_76 rfl (lv_at hl 0 rfl) ?_
                refine r_get (C := RX6) (T := TX6) (N := 18) hx hb hts i_X6_asking_X6 hown hK f_s.1 rfl 1 (by decide) k_X6_asking_fieldLink_9 rfl rfl dX6_asking_77 ?_
                refine lv_iconst (v := 1) hx hb dX6_asking_80 (by decide) ?_
                refine r_iald hx hb hK f_s.2.1 (vp_ib (lo := 1) (hi := 1) (ib_nI (n := 1) (by decide)) (by decide) (by decide)) dX6_asking_81 ?_
                refine lv_istore (lv' := [(8, .int ((mS x) (1 : Int32).toNatClampNeg)), (0, .ref (M 0)), (1, .int stuff), (2, .int moved), (3, .int times), (4, .int (b2i eat)), (5, .int word), (6, .int looks), (7, .int truly)]) hx hb dX6_asking_82 hl (by decide) rfl (fun ls hl => ?_)
                refine lv_aload_n hx hb dX6_asking_84 rfl (lv_at hl 1 rfl) ?_
                refine r_get (C := RX6) (T := TX6) (N := 18) hx hb hts i_X6_asking_X6 hown hK f_s.1 rfl 1 (by decide) k_X6_asking_fieldLink_9 rfl rfl dX6_asking_85 ?_
                refine lv_sipush (v := 170) hx hb dX6_asking_88 (by decide +kernel) ?_
                refine lv_iload hx hb dX6_asking_91 (lv_at hl 0 rfl) ?_
                refine lv_iadd hx hb dX6_asking_93 ?_
                refine lv_iload_n hx hb dX6_asking_94 rfl (lv_at hl 2 rfl) ?_
                refine w_iast hx hb hK f_s.2.1 hS rfl (vp_ib (lo := 170) (hi := 186) (ib_add (ib_nI (n := 170) (by decide)) (mI.at (lo := 1) (hi := 1) (x := 0) (y := 16) hI (ib_nI (n := 1) (by decide)) (by decide) (by decide) (by decide)) (by decide) (by decide)) (by decide) (by decide)) dX6_asking_95 (fun H locs hn hq hS => ?_)
                have f_s : MAt G M (mSetS x (upd (mS x) (170 + ((mS x) (1 : Int32).toNatClampNeg)).toNatClampNeg stuff)) H := f_s.putS hN hn hq rfl rfl rfl rfl
                refine lv_aload_n hx hb dX6_asking_96 rfl (lv_at hl 1 rfl) ?_
                refine r_get (C := RX6) (T := TX6) (N := 18) hx hb hts i_X6_asking_X6 hown hK f_s.1 rfl 1 (by decide) k_X6_asking_fieldLink_9 rfl rfl dX6_asking_97 ?_
                refine lv_sipush (v := 186) hx hb dX6_asking_100 (by decide +kernel) ?_
                refine lv_iload hx hb dX6_asking_103 (lv_at hl 0 rfl) ?_
                refine lv_iadd hx hb dX6_asking_105 ?_
                refine lv_iload_n hx hb dX6_asking_106 rfl (lv_at hl 3 rfl) ?_
                refine w_iast hx hb hK f_s.2.1 hS rfl (vp_ib (lo := 186) (hi := 202) (ib_add (ib_nI (n := 186) (by decide)) (mI.at (lo := 1) (hi := 1) (x := 0) (y := 16) hI (ib_nI (n := 1) (by decide)) (by decide) (by decide) (by decide)) (by decide) (by decide)) (by decide) (by decide)) dX6_asking_107 (fun H locs hn hq hS => ?_)
                have f_s : MAt G M (mSetS x (upd (upd (mS x) (170 + ((mS x) (1 : Int32).toNatClampNeg)).toNatClampNeg stuff) (186 + ((mS x) (1 : Int32).toNatClampNeg)).toNatClampNeg moved)) H := f_s.putS hN hn hq rfl rfl rfl rfl
                refine lv_aload_n hx hb dX6_asking_108 rfl (lv_at hl 1 rfl) ?_
                refine r_get (C := RX6) (T := TX6) (N := 18) hx hb hts i_X6_asking_X6 hown hK f_s.1 rfl 1 (by decide) k_X6_asking_fieldLink_9 rfl rfl dX6_asking_109 ?_
                refine lv_sipush (v := 202) hx hb dX6_asking_112 (by decide +kernel) ?_
                refine lv_iload hx hb dX6_asking_115 (lv_at hl 0 rfl) ?_
                refine lv_iadd hx hb dX6_asking_117 ?_
                refine lv_iload_n hx hb dX6_asking_118 rfl (lv_at hl 4 rfl) ?_
                refine w_iast hx hb hK f_s.2.1 hS rfl (vp_ib (lo := 202) (hi := 218) (ib_add (ib_nI (n := 202) (by decide)) (mI.at (lo := 1) (hi := 1) (x := 0) (y := 16) hI (ib_nI (n := 1) (by decide)) (by decide) (by decide) (by decide)) (by decide) (by decide)) (by decide) (by decide)) dX6_asking_119 (fun H locs hn hq hS => ?_)
                have f_s : MAt G M (mSetS x (upd (upd (upd (mS x) (170 + ((mS x) (1 : Int32).toNatClampNeg)).toNatClampNeg stuff) (186 + ((mS x) (1 : Int32).toNatClampNeg)).toNatClampNeg moved) (202 + ((mS x) (1 : Int32).toNatClampNeg)).toNatClampNeg times)) H := f_s.putS hN hn hq rfl rfl rfl rfl
                refine lv_aload_n hx hb dX6_asking_120 rfl (lv_at hl 1 rfl) ?_
                refine r_get (C := RX6) (T := TX6) (N := 18) hx hb hts i_X6_asking_X6 hown hK f_s.1 rfl 1 (by decide) k_X6_asking_fieldLink_9 rfl rfl dX6_asking_121 ?_
                refine lv_sipush (v := 218) hx hb dX6_asking_124 (by decide +kernel) ?_
                refine lv_iload hx hb dX6_asking_127 (lv_at hl 0 rfl) ?_
                refine lv_iadd hx hb dX6_asking_129 ?_
                refine lv_iload hx hb dX6_asking_130 (lv_at hl 5 rfl) ?_
                refine join_wr (nL := 9) 140 [(8, .int ((mS x) (1 : Int32).toNatClampNeg)), (0, .ref (M 0)), (1, .int stuff), (2, .int moved), (3, .int times), (4, .int (b2i eat)), (5, .int word), (6, .int looks), (7, .int truly)] [.int (b2i (if eat = true then true else false)), .int (218 + ((mS x) (1 : Int32).toNatClampNeg)), .ref (M 1)] (fun H locs => (MAt G M (mSetS x (upd (upd (upd (mS x) (170 + ((mS x) (1 : Int32).toNatClampNeg)).toNatClampNeg stuff) (186 + ((mS x) (1 : Int32).toNatClampNeg)).toNatClampNeg moved) (202 + ((mS x) (1 : Int32).toNatClampNeg)).toNatClampNeg times)) H) ∧ wS (m1 M) s.heap H locs ∧ True) (fun H locs hI ls hl => ?_) (fun J_8 => ?_)
                · obtain ⟨f_s, hS, hZ⟩ := hI
                  refine w_iast hx hb hK f_s.2.1 hS rfl (vp_ib (lo := 218) (hi := 234) (ib_add (ib_nI (n := 218) (by decide)) (mI.at (lo := 1) (hi := 1) (x := 0) (y := 16) hI (ib_nI (n := 1) (by decide)) (by decide) (by decide) (by decide)) (by decide) (by decide)) (by decide) (by decide)) dX6_asking_140 (fun H locs hn hq hS => ?_)
                  have f_s : MAt G M (mSetS x (upd (upd (upd (upd (mS x) (170 + ((mS x) (1 : Int32).toNatClampNeg)).toNatClampNeg stuff) (186 + ((mS x) (1 : Int32).toNatClampNeg)).toNatClampNeg moved) (202 + ((mS x) (1 : Int32).toNatClampNeg)).toNatClampNeg times) (218 + ((mS x) (1 : Int32).toNatClampNeg)).toNatClampNeg (b2i (if eat = true then true else false)))) H := f_s.putS hN hn hq rfl rfl rfl rfl
                  refine lv_aload_n hx hb dX6_asking_141 rfl (lv_at hl 1 rfl) ?_
                  refine r_get (C := RX6) (T := TX6) (N := 18) hx hb hts i_X6_asking_X6 hown hK f_s.1 rfl 1 (by decide) k_X6_asking_fieldLink_9 rfl rfl dX6_asking_142 ?_
                  refine lv_sipush (v := 234) hx hb dX6_asking_145 (by decide +kernel) ?_
                  refine lv_iload hx hb dX6_asking_148 (lv_at hl 0 rfl) ?_
                  refine lv_iadd hx hb dX6_asking_150 ?_
                  refine lv_iload hx hb dX6_asking_151 (lv_at hl 6 rfl) ?_
                  refine w_iast hx hb hK f_s.2.1 hS rfl (vp_ib (lo := 234) (hi := 250) (ib_add (ib_nI (n := 234) (by decide)) (mI.at (lo := 1) (hi := 1) (x := 0) (y := 16) hI (ib_nI (n := 1) (by decide)) (by decide) (by decide) (by decide)) (by decide) (by decide)) (by decide) (by decide)) dX6_asking_153 (fun H locs hn hq hS => ?_)
                  have f_s : MAt G M (mSetS x (upd (upd (upd (upd (upd (mS x) (170 + ((mS x) (1 : Int32).toNatClampNeg)).toNatClampNeg stuff) (186 + ((mS x) (1 : Int32).toNatClampNeg)).toNatClampNeg moved) (202 + ((mS x) (1 : Int32).toNatClampNeg)).toNatClampNeg times) (218 + ((mS x) (1 : Int32).toNatClampNeg)).toNatClampNeg (b2i (if eat = true then true else false))) (234 + ((mS x) (1 : Int32).toNatClampNeg)).toNatClampNeg word)) H := f_s.putS hN hn hq rfl rfl rfl rfl
                  refine lv_aload_n hx hb dX6_asking_154 rfl (lv_at hl 1 rfl) ?_
                  refine r_get (C := RX6) (T := TX6) (N := 18) hx hb hts i_X6_asking_X6 hown hK f_s.1 rfl 1 (by decide) k_X6_asking_fieldLink_9 rfl rfl dX6_asking_155 ?_
                  refine lv_sipush (v := 250) hx hb dX6_asking_158 (by decide +kernel) ?_
                  refine lv_iload hx hb dX6_asking_161 (lv_at hl 0 rfl) ?_
                  refine lv_iadd hx hb dX6_asking_163 ?_
                  refine lv_iload hx hb dX6_asking_164 (lv_at hl 7 rfl) ?_
                  refine w_iast hx hb hK f_s.2.1 hS rfl (vp_ib (lo := 250) (hi := 266) (ib_add (ib_nI (n := 250) (by decide)) (mI.at (lo := 1) (hi := 1) (x := 0) (y := 16) hI (ib_nI (n := 1) (by decide)) (by decide) (by decide) (by decide)) (by decide) (by decide)) (by decide) (by decide)) dX6_asking_166 (fun H locs hn hq hS => ?_)
                  have f_s : MAt G M (mSetS x (upd (upd (upd (upd (upd (upd (mS x) (170 + ((mS x) (1 : Int32).toNatClampNeg)).toNatClampNeg stuff) (186 + ((mS x) (1 : Int32).toNatClampNeg)).toNatClampNeg moved) (202 + ((mS x) (1 : Int32).toNatClampNeg)).toNatClampNeg times) (218 + ((mS x) (1 : Int32).toNatClampNeg)).toNatClampNeg (b2i (if eat = true then true else false))) (234 + ((mS x) (1 : Int32).toNatClampNeg)).toNatClampNeg word) (250 + ((mS x) (1 : Int32).toNatClampNeg)).toNatClampNeg looks)) H := f_s.putS hN hn hq rfl rfl rfl rfl
                  refine lv_aload_n hx hb dX6_asking_167 rfl (lv_at hl 1 rfl) ?_
                  refine r_get (C := RX6) (T := TX6) (N := 18) hx hb hts i_X6_asking_X6 hown hK f_s.1 rfl 1 (by decide) k_X6_asking_fieldLink_9 rfl rfl dX6_asking_168 ?_
                  refine lv_sipush (v := 266) hx hb dX6_asking_171 (by decide +kernel) ?_
                  refine lv_iload hx hb dX6_asking_174 (lv_at hl 0 rfl) ?_
                  refine lv_iadd hx hb dX6_asking_176 ?_
                  refine lv_iload hx hb dX6_asking_177 (lv_at hl 8 rfl) ?_
                  refine w_iast hx hb hK f_s.2.1 hS rfl (vp_ib (lo := 266) (hi := 282) (ib_add (ib_nI (n := 266) (by decide)) (mI.at (lo := 1) (hi := 1) (x := 0) (y := 16) hI (ib_nI (n := 1) (by decide)) (by decide) (by decide) (by decide)) (by decide) (by decide)) (by decide) (by decide)) dX6_asking_179 (fun H locs hn hq hS => ?_)
                  have f_s : MAt G M (mSetS x (upd (upd (upd (upd (upd (upd (upd (mS x) (170 + ((mS x) (1 : Int32).toNatClampNeg)).toNatClampNeg stuff) (186 + ((mS x) (1 : Int32).toNatClampNeg)).toNatClampNeg moved) (202 + ((mS x) (1 : Int32).toNatClampNeg)).toNatClampNeg times) (218 + ((mS x) (1 : Int32).toNatClampNeg)).toNatClampNeg (b2i (if eat = true then true else false))) (234 + ((mS x) (1 : Int32).toNatClampNeg)).toNatClampNeg word) (250 + ((mS x) (1 : Int32).toNatClampNeg)).toNatClampNeg looks) (266 + ((mS x) (1 : Int32).toNatClampNeg)).toNatClampNeg truly)) H := f_s.putS hN hn hq rfl rfl rfl rfl
                  refine lv_aload_n hx hb dX6_asking_180 rfl (lv_at hl 1 rfl) ?_
                  refine r_get (C := RX6) (T := TX6) (N := 18) hx hb hts i_X6_asking_X6 hown hK f_s.1 rfl 1 (by decide) k_X6_asking_fieldLink_9 rfl rfl dX6_asking_181 ?_
                  refine lv_iconst (v := 1) hx hb dX6_asking_184 (by decide) ?_
                  refine lv_dup2_11 hx hb dX6_asking_185 rfl rfl ?_
                  refine r_iald hx hb hK f_s.2.1 (vp_ib (lo := 1) (hi := 1) (ib_nI (n := 1) (by decide)) (by decide) (by decide)) dX6_asking_186 ?_
                  refine lv_iconst (v := 1) hx hb dX6_asking_187 (by decide) ?_
                  refine lv_iadd hx hb dX6_asking_188 ?_
                  refine w_iast hx hb hK f_s.2.1 hS rfl (vp_ib (lo := 1) (hi := 1) (ib_nI (n := 1) (by decide)) (by decide) (by decide)) dX6_asking_189 (fun H locs hn hq hS => ?_)
                  have f_s : MAt G M (mSetS x (upd (upd (upd (upd (upd (upd (upd (upd (mS x) (170 + ((mS x) (1 : Int32).toNatClampNeg)).toNatClampNeg stuff) (186 + ((mS x) (1 : Int32).toNatClampNeg)).toNatClampNeg moved) (202 + ((mS x) (1 : Int32).toNatClampNeg)).toNatClampNeg times) (218 + ((mS x) (1 : Int32).toNatClampNeg)).toNatClampNeg (b2i (if eat = true then true else false))) (234 + ((mS x) (1 : Int32).toNatClampNeg)).toNatClampNeg word) (250 + ((mS x) (1 : Int32).toNatClampNeg)).toNatClampNeg looks) (266 + ((mS x) (1 : Int32).toNatClampNeg)).toNatClampNeg truly) (1 : Int32).toNatClampNeg (((upd (upd (upd (upd (upd (upd (upd (mS x) (170 + ((mS x) (1 : Int32).toNatClampNeg)).toNatClampNeg stuff) (186 + ((mS x) (1 : Int32).toNatClampNeg)).toNatClampNeg moved) (202 + ((mS x) (1 : Int32).toNatClampNeg)).toNatClampNeg times) (218 + ((mS x) (1 : Int32).toNatClampNeg)).toNatClampNeg (b2i (if eat = true then true else false))) (234 + ((mS x) (1 : Int32).toNatClampNeg)).toNatClampNeg word) (250 + ((mS x) (1 : Int32).toNatClampNeg)).toNatClampNeg looks) (266 + ((mS x) (1 : Int32).toNatClampNeg)).toNatClampNeg truly) (1 : Int32).toNatClampNeg) + 1))) H := f_s.putS hN hn hq rfl rfl rfl rfl
                  refine lv_iload hx hb dX6_asking_190 (lv_at hl 0 rfl) ?_
                  have hE9 : r_asking x stuff moved times eat word looks truly = ((mS x) (1 : Int32).toNatClampNeg, upd (upd (upd (upd (upd (upd (upd (upd (mS x) (170 + ((mS x) (1 : Int32).toNatClampNeg)).toNatClampNeg stuff) (186 + ((mS x) (1 : Int32).toNatClampNeg)).toNatClampNeg moved) (202 + ((mS x) (1 : Int32).toNatClampNeg)).toNatClampNeg times) (218 + ((mS x) (1 : Int32).toNatClampNeg)).toNatClampNeg (b2i (if eat = true then true else false))) (234 + ((mS x) (1 : Int32).toNatClampNeg)).toNatClampNeg word) (250 + ((mS x) (1 : Int32).toNatClampNeg)).toNatClampNeg looks) (266 + ((mS x) (1 : Int32).toNatClampNeg)).toNatClampNeg truly) (1 : Int32).toNatClampNeg (((upd (upd (upd (upd (upd (upd (upd (mS x) (170 + ((mS x) (1 : Int32).toNatClampNeg)).toNatClampNeg stuff) (186 + ((mS x) (1 : Int32).toNatClampNeg)).toNatClampNeg moved) (202 + ((mS x) (1 : Int32).toNatClampNeg)).toNatClampNeg times) (218 + ((mS x) (1 : Int32).toNatClampNeg)).toNatClampNeg (b2i (if eat = true then true else false))) (234 + ((mS x) (1 : Int32).toNatClampNeg)).toNatClampNeg word) (250 + ((mS x) (1 : Int32).toNatClampNeg)).toNatClampNeg looks) (266 + ((mS x) (1 : Int32).toNatClampNeg)).toNatClampNeg truly) (1 : Int32).toNatClampNeg) + 1)) := (by (try unfold r_asking); (repeat rw [if_pos h_1]); (repeat rw [if_pos h_2]); (repeat rw [if_pos h_3]); (repeat rw [if_pos h_4]); (repeat rw [if_pos h_5]); (repeat rw [if_pos h_6]); (repeat rw [if_neg h_7]); first | done | rfl)
                  exact wr_iret hx hb hr hlocks dX6_asking_192 hS (by rw [hE9]; exact f_s) (by rw [hE9]; first | done | rfl)
                · refine bz_eq (tgt := 139) hx hb dX6_asking_132 (by decide) (fun h_9 => ?_) (fun h_9 => ?_)
                  · have h_9 : ¬ (eat = true) := h_9
                    refine lv_iconst (v := 0) hx hb dX6_asking_139 (by decide) ?_
                    have hJ := J_8; (repeat rw [if_neg h_9] at hJ)
                    (repeat rw [if_neg h_9] at f_s)
                    first | exact hJ _ _ ⟨f_s, hS, hZ⟩ ls (lv_sub hl [0, 1, 2, 3, 4, 5, 6, 7, 8] rfl) | ((repeat rw [if_neg h_9] at hl); (repeat rw [if_neg h_9]); (repeat rw [if_neg h_9] at f_s); exact hJ _ _ ⟨f_s, hS, hZ⟩ ls (lv_sub hl [0, 1, 2, 3, 4, 5, 6, 7, 8] rfl))
                  · have h_9 : eat = true := h_9
                    refine lv_iconst (v := 1) hx hb dX6_asking_135 (by decide) ?_
                    refine lv_goto (tgt := 140) hx hb dX6_asking_136 (by decide) ?_
                    have hJ := J_8; (repeat rw [if_pos h_9] at hJ)
                    (repeat rw [if_pos h_9] at f_s)
                    first | exact hJ _ _ ⟨f_s, hS, hZ⟩ ls (lv_sub hl [0, 1, 2, 3, 4, 5, 6, 7, 8] rfl) | ((repeat rw [if_pos h_9] at hl); (repeat rw [if_pos h_9]); (repeat rw [if_pos h_9] at f_s); exact hJ _ _ ⟨f_s, hS, hZ⟩ ls (lv_sub hl [0, 1, 2, 3, 4, 5, 6, 7, 8] rfl))
              · have h_7 : ((mS x) (1 : Int32).toNatClampNeg) = 16 := h_7
                refine lv_bipush (v := (-4)) hx hb dX6_asking_73 (by decide +kernel) ?_
                have hE9 : r_asking x stuff moved times eat word looks truly = ((-4), mS x) := (by (try unfold r_asking); (repeat rw [if_pos h_1]); (repeat rw [if_pos h_2]); (repeat rw [if_pos h_3]); (repeat rw [if_pos h_4]); (repeat rw [if_pos h_5]); (repeat rw [if_pos h_6]); (repeat rw [if_pos h_7]); first | done | rfl)
                exact wr_iret hx hb hr hlocks dX6_asking_75 hS (by rw [hE9]; exact f_s) (by rw [hE9]; first | done | rfl)
            · have h_6 : ¬ ((r_in truly (-1) 1) = true) := h_6
              refine lv_bipush (v := (-2)) hx hb dX6_asking_59 (by decide +kernel) ?_
              have hE9 : r_asking x stuff moved times eat word looks truly = ((-2), mS x) := (by (try unfold r_asking); (repeat rw [if_pos h_1]); (repeat rw [if_pos h_2]); (repeat rw [if_pos h_3]); (repeat rw [if_pos h_4]); (repeat rw [if_pos h_5]); (repeat rw [if_neg h_6]); first | done | rfl)
              exact wr_iret hx hb hr hlocks dX6_asking_61 hS (by rw [hE9]; exact f_s) (by rw [hE9]; first | done | rfl)
    · have h_2 : ¬ ((r_in moved 0 2) = true) := h_2
      refine lv_iconst (v := (-1)) hx hb dX6_asking_16 (by decide) ?_
      have hE9 : r_asking x stuff moved times eat word looks truly = ((-1), mS x) := (by (try unfold r_asking); (repeat rw [if_pos h_1]); (repeat rw [if_neg h_2]); first | done | rfl)
      exact wr_iret hx hb hr hlocks dX6_asking_17 hS (by rw [hE9]; exact f_s) (by rw [hE9]; first | done | rfl)
theorem c2_X6_asking (l : Launch) (G : GG) (M : Nat → Nat) (x : MT) (stuff : Int32) (moved : Int32) (times : Int32) (eat : Bool) (word : Int32) (looks : Int32) (truly : Int32)  (hI : mI (mS x)) (hO : mO (mS x)) (hN : mN M) (r9 : Int32) (sv9 : Nat → Int32) (hy9 : r_asking x stuff moved times eat word looks truly = (r9, sv9)) : Met l yX6_asking wsX6_asking { frames := 2, cells := 0, slots := 0, locals := 42 } (roP G [.ref (M 0), .int stuff, .int moved, .int times, .int (b2i eat), .int word, .int looks, .int truly] (fun H => MAt G M x H)) (wrQ (some (.int r9)) (fun H => MAt G M (mSetS x sv9) H) (m1 M)) 0 0 (m1 M) := by
  have h9 := c_X6_asking l G M x stuff moved times eat word looks truly hI hO hN
  rw [hy9] at h9
  exact h9
theorem i_X6_answer_X6 : ∀ w ∈ wsX60, w ∈ wsX6_answer := fun _ h => List.mem_cons_of_mem _ (List.mem_append_right _ h)
theorem k_X6_answer_fieldLink_9 : Cond.fieldLink RX6 9 "SameWaterModel" "s" "[I" ∈ wsX6_answer := by decide +kernel
def r_answer (x : MT) (child : Int32) (asking : Int32) (said : Int32) (why : Bool) : Int32 × (Nat → Int32) := if (r_isChild x child) = true then if (r_isAsking x asking) = true then if (r_in said 0 2) = true then if ((mS x) (2 : Int32).toNatClampNeg) = 40 then ((-4), mS x) else ((mS x) (2 : Int32).toNatClampNeg, upd (upd (upd (upd (upd (upd (mS x) (282 + ((mS x) (2 : Int32).toNatClampNeg)).toNatClampNeg child) (322 + ((mS x) (2 : Int32).toNatClampNeg)).toNatClampNeg asking) (362 + ((mS x) (2 : Int32).toNatClampNeg)).toNatClampNeg said) (402 + ((mS x) (2 : Int32).toNatClampNeg)).toNatClampNeg (b2i (if why = true then true else false))) (442 + ((mS x) (2 : Int32).toNatClampNeg)).toNatClampNeg ((upd (upd (upd (upd (mS x) (282 + ((mS x) (2 : Int32).toNatClampNeg)).toNatClampNeg child) (322 + ((mS x) (2 : Int32).toNatClampNeg)).toNatClampNeg asking) (362 + ((mS x) (2 : Int32).toNatClampNeg)).toNatClampNeg said) (402 + ((mS x) (2 : Int32).toNatClampNeg)).toNatClampNeg (b2i (if why = true then true else false))) (130 + child).toNatClampNeg)) (2 : Int32).toNatClampNeg (((upd (upd (upd (upd (upd (mS x) (282 + ((mS x) (2 : Int32).toNatClampNeg)).toNatClampNeg child) (322 + ((mS x) (2 : Int32).toNatClampNeg)).toNatClampNeg asking) (362 + ((mS x) (2 : Int32).toNatClampNeg)).toNatClampNeg said) (402 + ((mS x) (2 : Int32).toNatClampNeg)).toNatClampNeg (b2i (if why = true then true else false))) (442 + ((mS x) (2 : Int32).toNatClampNeg)).toNatClampNeg ((upd (upd (upd (upd (mS x) (282 + ((mS x) (2 : Int32).toNatClampNeg)).toNatClampNeg child) (322 + ((mS x) (2 : Int32).toNatClampNeg)).toNatClampNeg asking) (362 + ((mS x) (2 : Int32).toNatClampNeg)).toNatClampNeg said) (402 + ((mS x) (2 : Int32).toNatClampNeg)).toNatClampNeg (b2i (if why = true then true else false))) (130 + child).toNatClampNeg)) (2 : Int32).toNatClampNeg) + 1)) else ((-2), mS x) else ((-1), mS x) else ((-1), mS x)
set_option maxHeartbeats 400000 in
set_option maxRecDepth 100000 in
theorem c_X6_answer (l : Launch) (G : GG) (M : Nat → Nat) (x : MT) (child : Int32) (asking : Int32) (said : Int32) (why : Bool)  (hI : mI (mS x)) (hO : mO (mS x)) (hN : mN M) : Met l yX6_answer wsX6_answer { frames := 2, cells := 0, slots := 0, locals := 43 } (roP G [.ref (M 0), .int child, .int asking, .int said, .int (b2i why)] (fun H => MAt G M x H)) (wrQ (some (.int ((r_answer x child asking said why).1))) (fun H => MAt G M (mSetS x ((r_answer x child asking said why).2)) H) (m1 M)) 0 0 (m1 M) := by
  refine Met.ofW (cc := cX6_answer) (maxL := 6) (ret := (some .int)) (by decide) rfl ?_
  intro p e s m args below meth c s₁ Bd hml hv
  obtain ⟨rfl, hK, hB⟩ := hv
  have hx := Bd.exec
  have hb := Bd.bytes
  have hr := Bd.returns
  have hts := atoms_spec (ws := wsX6_answer) Bd.pre
  have hown : s.vm.findClass RX6 = some m.cls := findClass_of_methodNamed Bd.named
  have hlocks := Bd.notSynchronized
  have hC : CallFix p m c cX6_answer 6 s _ wsX6_answer RX6 := ⟨hx, hb, hml, hown, hts⟩
  have hl := lv_entry ([.ref (M 0), .int child, .int asking, .int said, .int (b2i why)]) (n := 6) (Nat.le_of_ble_eq_true rfl)
  rw [lg_entry_eq]
  generalize (lg_sl ([.ref (M 0), .int child, .int asking, .int said, .int (b2i why)]) ++ List.replicate (6 - (lg_sl ([.ref (M 0), .int child, .int asking, .int said, .int (b2i why)])).length) Slot.unset).toArray = ls at hl ⊢
  have hl : lv_has ls 6 [(0, .ref (M 0)), (1, .int child), (2, .int asking), (3, .int said), (4, .int (b2i why))] := hl
  have hS : wS (m1 M) s.heap s.heap [] := wS.rf
  have f_s : MAt G M (mSetS x (mS x)) s.heap := hB
  have hZ := trivial
  refine lv_aload_n hx hb dX6_answer_0 rfl (lv_at hl 0 rfl) ?_
  refine lv_iload_n hx hb dX6_answer_1 rfl (lv_at hl 1 rfl) ?_
  refine ro_call (va_runV (As := [.int child]) (rest := []) hC (c_X6_isChild l G M x child) (cwV 1 hts gX6_answer_X6_isChild rfl rfl rfl kd_X6_isChild ⟨Nat.le_of_ble_eq_true rfl, Nat.le_of_ble_eq_true rfl⟩) (ro_preV hK f_s.1 rfl f_s) rfl rfl hl.1 rfl (lv_room (Nat.le_of_ble_eq_true rfl)) dX6_answer_2 ⟨Nat.zero_le _, Nat.zero_le _⟩) ?_
  refine bz_eq (tgt := 16) hx hb dX6_answer_5 (by decide) (fun h_1 => ?_) (fun h_1 => ?_)
  · have h_1 : ¬ ((r_isChild x child) = true) := h_1
    refine lv_iconst (v := (-1)) hx hb dX6_answer_16 (by decide) ?_
    have hE9 : r_answer x child asking said why = ((-1), mS x) := (by (try unfold r_answer); (repeat rw [if_neg h_1]); first | done | rfl)
    exact wr_iret hx hb hr hlocks dX6_answer_17 hS (by rw [hE9]; exact f_s) (by rw [hE9]; first | done | rfl)
  · have h_1 : (r_isChild x child) = true := h_1
    refine lv_aload_n hx hb dX6_answer_8 rfl (lv_at hl 0 rfl) ?_
    refine lv_iload_n hx hb dX6_answer_9 rfl (lv_at hl 2 rfl) ?_
    refine ro_call (va_runV (As := [.int asking]) (rest := []) hC (c_X6_isAsking l G M x asking) (cwV 1 hts gX6_answer_X6_isAsking rfl rfl rfl kd_X6_isAsking ⟨Nat.le_of_ble_eq_true rfl, Nat.le_of_ble_eq_true rfl⟩) (ro_preV hK f_s.1 rfl f_s) rfl rfl hl.1 rfl (lv_room (Nat.le_of_ble_eq_true rfl)) dX6_answer_10 ⟨Nat.zero_le _, Nat.zero_le _⟩) ?_
    refine bz_ne (tgt := 18) hx hb dX6_answer_13 (by decide) (fun h_2 => ?_) (fun h_2 => ?_)
    · have h_2 : (r_isAsking x asking) = true := h_2
      refine lv_iload_n hx hb dX6_answer_18 rfl (lv_at hl 3 rfl) ?_
      refine lv_iconst (v := 0) hx hb dX6_answer_19 (by decide) ?_
      refine lv_iconst (v := 2) hx hb dX6_answer_20 (by decide) ?_
      refine ro_call (va_runS (As := [.int said, .int 0, .int 2]) (rest := []) hC (c_X6_in l G said 0 2) (va_cwS 3 hts gX6_answer_X6_in rfl rfl rfl kd_X6_in ⟨Nat.le_of_ble_eq_true rfl, Nat.le_of_ble_eq_true rfl⟩) (ro_preS hK trivial) rfl rfl hl.1 rfl (lv_room (Nat.le_of_ble_eq_true rfl)) dX6_answer_21 ⟨Nat.zero_le _, Nat.zero_le _⟩) ?_
      refine bz_ne (tgt := 30) hx hb dX6_answer_24 (by decide) (fun h_3 => ?_) (fun h_3 => ?_)
      · have h_3 : (r_in said 0 2) = true := h_3
        refine lv_aload_n hx hb dX6_answer_30 rfl (lv_at hl 0 rfl) ?_
        refine r_get (C := RX6) (T := TX6) (N := 18) hx hb hts i_X6_answer_X6 hown hK f_s.1 rfl 1 (by decide) k_X6_answer_fieldLink_9 rfl rfl dX6_answer_31 ?_
        refine lv_iconst (v := 2) hx hb dX6_answer_34 (by decide) ?_
        refine r_iald hx hb hK f_s.2.1 (vp_ib (lo := 2) (hi := 2) (ib_nI (n := 2) (by decide)) (by decide) (by decide)) dX6_answer_35 ?_
        refine lv_bipush (v := 40) hx hb dX6_answer_36 (by decide +kernel) ?_
        refine lv_icmp_ne (tgt := 44) hx hb dX6_answer_38 (by decide) (fun h_4 => ?_) (fun h_4 => ?_)
        · have h_4 : ¬ (((mS x) (2 : Int32).toNatClampNeg) = 40) := h_4
          refine lv_aload_n hx hb dX6_answer_44 rfl (lv_at hl 0 rfl) ?_
          refine r_get (C := RX6) (T := TX6) (N := 18) hx hb hts i_X6_answer_X6 hown hK f_s.1 rfl 1 (by decide) k_X6_answer_fieldLink_9 rfl rfl dX6_answer_45 ?_
          refine lv_iconst (v := 2) hx hb dX6_answer_48 (by decide) ?_
          refine r_iald hx hb hK f_s.2.1 (vp_ib (lo := 2) (hi := 2) (ib_nI (n := 2) (by decide)) (by decide) (by decide)) dX6_answer_49 ?_
          refine lv_istore (lv' := [(5, .int ((mS x) (2 : Int32).toNatClampNeg)), (0, .ref (M 0)), (1, .int child), (2, .int asking), (3, .int said), (4, .int (b2i why))]) hx hb dX6_answer_50 hl (by decide) rfl (fun ls hl => ?_)
          refine lv_aload_n hx hb dX6_answer_52 rfl (lv_at hl 1 rfl) ?_
          refine r_get (C := RX6) (T := TX6) (N := 18) hx hb hts i_X6_answer_X6 hown hK f_s.1 rfl 1 (by decide) k_X6_answer_fieldLink_9 rfl rfl dX6_answer_53 ?_
          refine lv_sipush (v := 282) hx hb dX6_answer_56 (by decide +kernel) ?_
          refine lv_iload hx hb dX6_answer_59 (lv_at hl 0 rfl) ?_
          refine lv_iadd hx hb dX6_answer_61 ?_
          refine lv_iload_n hx hb dX6_answer_62 rfl (lv_at hl 2 rfl) ?_
          refine w_iast hx hb hK f_s.2.1 hS rfl (vp_ib (lo := 282) (hi := 322) (ib_add (ib_nI (n := 282) (by decide)) (mI.at (lo := 2) (hi := 2) (x := 0) (y := 40) hI (ib_nI (n := 2) (by decide)) (by decide) (by decide) (by decide)) (by decide) (by decide)) (by decide) (by decide)) dX6_answer_63 (fun H locs hn hq hS => ?_)
          have f_s : MAt G M (mSetS x (upd (mS x) (282 + ((mS x) (2 : Int32).toNatClampNeg)).toNatClampNeg child)) H := f_s.putS hN hn hq rfl rfl rfl rfl
          refine lv_aload_n hx hb dX6_answer_64 rfl (lv_at hl 1 rfl) ?_
          refine r_get (C := RX6) (T := TX6) (N := 18) hx hb hts i_X6_answer_X6 hown hK f_s.1 rfl 1 (by decide) k_X6_answer_fieldLink_9 rfl rfl dX6_answer_65 ?_
          refine lv_sipush (v := 322) hx hb dX6_answer_68 (by decide +kernel) ?_
          refine lv_iload hx hb dX6_answer_71 (lv_at hl 0 rfl) ?_
          refine lv_iadd hx hb dX6_answer_73 ?_
          refine lv_iload_n hx hb dX6_answer_74 rfl (lv_at hl 3 rfl) ?_
          refine w_iast hx hb hK f_s.2.1 hS rfl (vp_ib (lo := 322) (hi := 362) (ib_add (ib_nI (n := 322) (by decide)) (mI.at (lo := 2) (hi := 2) (x := 0) (y := 40) hI (ib_nI (n := 2) (by decide)) (by decide) (by decide) (by decide)) (by decide) (by decide)) (by decide) (by decide)) dX6_answer_75 (fun H locs hn hq hS => ?_)
          have f_s : MAt G M (mSetS x (upd (upd (mS x) (282 + ((mS x) (2 : Int32).toNatClampNeg)).toNatClampNeg child) (322 + ((mS x) (2 : Int32).toNatClampNeg)).toNatClampNeg asking)) H := f_s.putS hN hn hq rfl rfl rfl rfl
          refine lv_aload_n hx hb dX6_answer_76 rfl (lv_at hl 1 rfl) ?_
          refine r_get (C := RX6) (T := TX6) (N := 18) hx hb hts i_X6_answer_X6 hown hK f_s.1 rfl 1 (by decide) k_X6_answer_fieldLink_9 rfl rfl dX6_answer_77 ?_
          refine lv_sipush (v := 362) hx hb dX6_answer_80 (by decide +kernel) ?_
          refine lv_iload hx hb dX6_answer_83 (lv_at hl 0 rfl) ?_
          refine lv_iadd hx hb dX6_answer_85 ?_
          refine lv_iload_n hx hb dX6_answer_86 rfl (lv_at hl 4 rfl) ?_
          refine w_iast hx hb hK f_s.2.1 hS rfl (vp_ib (lo := 362) (hi := 402) (ib_add (ib_nI (n := 362) (by decide)) (mI.at (lo := 2) (hi := 2) (x := 0) (y := 40) hI (ib_nI (n := 2) (by decide)) (by decide) (by decide) (by decide)) (by decide) (by decide)) (by decide) (by decide)) dX6_answer_87 (fun H locs hn hq hS => ?_)
          have f_s : MAt G M (mSetS x (upd (upd (upd (mS x) (282 + ((mS x) (2 : Int32).toNatClampNeg)).toNatClampNeg child) (322 + ((mS x) (2 : Int32).toNatClampNeg)).toNatClampNeg asking) (362 + ((mS x) (2 : Int32).toNatClampNeg)).toNatClampNeg said)) H := f_s.putS hN hn hq rfl rfl rfl rfl
          refine lv_aload_n hx hb dX6_answer_88 rfl (lv_at hl 1 rfl) ?_
          refine r_get (C := RX6) (T := TX6) (N := 18) hx hb hts i_X6_answer_X6 hown hK f_s.1 rfl 1 (by decide) k_X6_answer_fieldLink_9 rfl rfl dX6_answer_89 ?_
          refine lv_sipush (v := 402) hx hb dX6_answer_92 (by decide +kernel) ?_
          refine lv_iload hx hb dX6_answer_95 (lv_at hl 0 rfl) ?_
          refine lv_iadd hx hb dX6_answer_97 ?_
          refine lv_iload hx hb dX6_answer_98 (lv_at hl 5 rfl) ?_
          refine join_wr (nL := 6) 108 [(5, .int ((mS x) (2 : Int32).toNatClampNeg)), (0, .ref (M 0)), (1, .int child), (2, .int asking), (3, .int said), (4, .int (b2i why))] [.int (b2i (if why = true then true else false)), .int (402 + ((mS x) (2 : Int32).toNatClampNeg)), .ref (M 1)] (fun H locs => (MAt G M (mSetS x (upd (upd (upd (mS x) (282 + ((mS x) (2 : Int32).toNatClampNeg)).toNatClampNeg child) (322 + ((mS x) (2 : Int32).toNatClampNeg)).toNatClampNeg asking) (362 + ((mS x) (2 : Int32).toNatClampNeg)).toNatClampNeg said)) H) ∧ wS (m1 M) s.heap H locs ∧ True) (fun H locs hI ls hl => ?_) (fun J_5 => ?_)
          · obtain ⟨f_s, hS, hZ⟩ := hI
            refine w_iast hx hb hK f_s.2.1 hS rfl (vp_ib (lo := 402) (hi := 442) (ib_add (ib_nI (n := 402) (by decide)) (mI.at (lo := 2) (hi := 2) (x := 0) (y := 40) hI (ib_nI (n := 2) (by decide)) (by decide) (by decide) (by decide)) (by decide) (by decide)) (by decide) (by decide)) dX6_answer_108 (fun H locs hn hq hS => ?_)
            have f_s : MAt G M (mSetS x (upd (upd (upd (upd (mS x) (282 + ((mS x) (2 : Int32).toNatClampNeg)).toNatClampNeg child) (322 + ((mS x) (2 : Int32).toNatClampNeg)).toNatClampNeg asking) (362 + ((mS x) (2 : Int32).toNatClampNeg)).toNatClampNeg said) (402 + ((mS x) (2 : Int32).toNatClampNeg)).toNatClampNeg (b2i (if why = true then true else false)))) H := f_s.putS hN hn hq rfl rfl rfl rfl
            refine lv_aload_n hx hb dX6_answer_109 rfl (lv_at hl 1 rfl) ?_
            refine r_get (C := RX6) (T := TX6) (N := 18) hx hb hts i_X6_answer_X6 hown hK f_s.1 rfl 1 (by decide) k_X6_answer_fieldLink_9 rfl rfl dX6_answer_110 ?_
            refine lv_sipush (v := 442) hx hb dX6_answer_113 (by decide +kernel) ?_
            refine lv_iload hx hb dX6_answer_116 (lv_at hl 0 rfl) ?_
            refine lv_iadd hx hb dX6_answer_118 ?_
            refine lv_aload_n hx hb dX6_answer_119 rfl (lv_at hl 1 rfl) ?_
            refine r_get (C := RX6) (T := TX6) (N := 18) hx hb hts i_X6_answer_X6 hown hK f_s.1 rfl 1 (by decide) k_X6_answer_fieldLink_9 rfl rfl dX6_answer_120 ?_
            refine lv_sipush (v := 130) hx hb dX6_answer_123 (by decide +kernel) ?_
            refine lv_iload_n hx hb dX6_answer_126 rfl (lv_at hl 2 rfl) ?_
            refine lv_iadd hx hb dX6_answer_127 ?_
            refine r_iald hx hb hK f_s.2.1 (vp_ib (lo := 130) (hi := 137) (ib_add (ib_nI (n := 130) (by decide)) (isChild_ib hI h_1) (by decide) (by decide)) (by decide) (by decide)) dX6_answer_128 ?_
            refine w_iast hx hb hK f_s.2.1 hS rfl (vp_ib (lo := 442) (hi := 482) (ib_add (ib_nI (n := 442) (by decide)) (mI.at (lo := 2) (hi := 2) (x := 0) (y := 40) hI (ib_nI (n := 2) (by decide)) (by decide) (by decide) (by decide)) (by decide) (by decide)) (by decide) (by decide)) dX6_answer_129 (fun H locs hn hq hS => ?_)
            have f_s : MAt G M (mSetS x (upd (upd (upd (upd (upd (mS x) (282 + ((mS x) (2 : Int32).toNatClampNeg)).toNatClampNeg child) (322 + ((mS x) (2 : Int32).toNatClampNeg)).toNatClampNeg asking) (362 + ((mS x) (2 : Int32).toNatClampNeg)).toNatClampNeg said) (402 + ((mS x) (2 : Int32).toNatClampNeg)).toNatClampNeg (b2i (if why = true then true else false))) (442 + ((mS x) (2 : Int32).toNatClampNeg)).toNatClampNeg ((upd (upd (upd (upd (mS x) (282 + ((mS x) (2 : Int32).toNatClampNeg)).toNatClampNeg child) (322 + ((mS x) (2 : Int32).toNatClampNeg)).toNatClampNeg asking) (362 + ((mS x) (2 : Int32).toNatClampNeg)).toNatClampNeg said) (402 + ((mS x) (2 : Int32).toNatClampNeg)).toNatClampNeg (b2i (if why = true then true else false))) (130 + child).toNatClampNeg))) H := f_s.putS hN hn hq rfl rfl rfl rfl
            refine lv_aload_n hx hb dX6_answer_130 rfl (lv_at hl 1 rfl) ?_
            refine r_get (C := RX6) (T := TX6) (N := 18) hx hb hts i_X6_answer_X6 hown hK f_s.1 rfl 1 (by decide) k_X6_answer_fieldLink_9 rfl rfl dX6_answer_131 ?_
            refine lv_iconst (v := 2) hx hb dX6_answer_134 (by decide) ?_
            refine lv_dup2_11 hx hb dX6_answer_135 rfl rfl ?_
            refine r_iald hx hb hK f_s.2.1 (vp_ib (lo := 2) (hi := 2) (ib_nI (n := 2) (by decide)) (by decide) (by decide)) dX6_answer_136 ?_
            refine lv_iconst (v := 1) hx hb dX6_answer_137 (by decide) ?_
            refine lv_iadd hx hb dX6_answer_138 ?_
            refine w_iast hx hb hK f_s.2.1 hS rfl (vp_ib (lo := 2) (hi := 2) (ib_nI (n := 2) (by decide)) (by decide) (by decide)) dX6_answer_139 (fun H locs hn hq hS => ?_)
            have f_s : MAt G M (mSetS x (upd (upd (upd (upd (upd (upd (mS x) (282 + ((mS x) (2 : Int32).toNatClampNeg)).toNatClampNeg child) (322 + ((mS x) (2 : Int32).toNatClampNeg)).toNatClampNeg asking) (362 + ((mS x) (2 : Int32).toNatClampNeg)).toNatClampNeg said) (402 + ((mS x) (2 : Int32).toNatClampNeg)).toNatClampNeg (b2i (if why = true then true else false))) (442 + ((mS x) (2 : Int32).toNatClampNeg)).toNatClampNeg ((upd (upd (upd (upd (mS x) (282 + ((mS x) (2 : Int32).toNatClampNeg)).toNatClampNeg child) (322 + ((mS x) (2 : Int32).toNatClampNeg)).toNatClampNeg asking) (362 + ((mS x) (2 : Int32).toNatClampNeg)).toNatClampNeg said) (402 + ((mS x) (2 : Int32).toNatClampNeg)).toNatClampNeg (b2i (if why = true then true else false))) (130 + child).toNatClampNeg)) (2 : Int32).toNatClampNeg (((upd (upd (upd (upd (upd (mS x) (282 + ((mS x) (2 : Int32).toNatClampNeg)).toNatClampNeg child) (322 + ((mS x) (2 : Int32).toNatClampNeg)).toNatClampNeg asking) (362 + ((mS x) (2 : Int32).toNatClampNeg)).toNatClampNeg said) (402 + ((mS x) (2 : Int32).toNatClampNeg)).toNatClampNeg (b2i (if why = true then true else false))) (442 + ((mS x) (2 : Int32).toNatClampNeg)).toNatClampNeg ((upd (upd (upd (upd (mS x) (282 + ((mS x) (2 : Int32).toNatClampNeg)).toNatClampNeg child) (322 + ((mS x) (2 : Int32).toNatClampNeg)).toNatClampNeg asking) (362 + ((mS x) (2 : Int32).toNatClampNeg)).toNatClampNeg said) (402 + ((mS x) (2 : Int32).toNatClampNeg)).toNatClampNeg (b2i (if why = true then true else false))) (130 + child).toNatClampNeg)) (2 : Int32).toNatClampNeg) + 1))) H := f_s.putS hN hn hq rfl rfl rfl rfl
            refine lv_iload hx hb dX6_answer_140 (lv_at hl 0 rfl) ?_
            have hE9 : r_answer x child asking said why = ((mS x) (2 : Int32).toNatClampNeg, upd (upd (upd (upd (upd (upd (mS x) (282 + ((mS x) (2 : Int32).toNatClampNeg)).toNatClampNeg child) (322 + ((mS x) (2 : Int32).toNatClampNeg)).toNatClampNeg asking) (362 + ((mS x) (2 : Int32).toNatClampNeg)).toNatClampNeg said) (402 + ((mS x) (2 : Int32).toNatClampNeg)).toNatClampNeg (b2i (if why = true then true else false))) (442 + ((mS x) (2 : Int32).toNatClampNeg)).toNatClampNeg ((upd (upd (upd (upd (mS x) (282 + ((mS x) (2 : Int32).toNatClampNeg)).toNatClampNeg child) (322 + ((mS x) (2 : Int32).toNatClampNeg)).toNatClampNeg asking) (362 + ((mS x) (2 : Int32).toNatClampNeg)).toNatClampNeg said) (402 + ((mS x) (2 : Int32).toNatClampNeg)).toNatClampNeg (b2i (if why = true then true else false))) (130 + child).toNatClampNeg)) (2 : Int32).toNatClampNeg (((upd (upd (upd (upd (upd (mS x) (282 + ((mS x) (2 : Int32).toNatClampNeg)).toNatClampNeg child) (322 + ((mS x) (2 : Int32).toNatClampNeg)).toNatClampNeg asking) (362 + ((mS x) (2 : Int32).toNatClampNeg)).toNatClampNeg said) (402 + ((mS x) (2 : Int32).toNatClampNeg)).toNatClampNeg (b2i (if why = true then true else false))) (442 + ((mS x) (2 : Int32).toNatClampNeg)).toNatClampNeg ((upd (upd (upd (upd (mS x) (282 + ((mS x) (2 : Int32).toNatClampNeg)).toNatClampNeg child) (322 + ((mS x) (2 : Int32).toNatClampNeg)).toNatClampNeg asking) (362 + ((mS x) (2 : Int32).toNatClampNeg)).toNatClampNeg said) (402 + ((mS x) (2 : Int32).toNatClampNeg)).toNatClampNeg (b2i (if why = true then true else false))) (130 + child).toNatClampNeg)) (2 : Int32).toNatClampNeg) + 1)) := (by (try unfold r_answer); (repeat rw [if_pos h_1]); (repeat rw [if_pos h_2]); (repeat rw [if_pos h_3]); (repeat rw [if_neg h_4]); first | done | rfl)
            exact wr_iret hx hb hr hlocks dX6_answer_142 hS (by rw [hE9]; exact f_s) (by rw [hE9]; first | done | rfl)
          · refine bz_eq (tgt := 107) hx hb dX6_answer_100 (by decide) (fun h_6 => ?_) (fun h_6 => ?_)
            · have h_6 : ¬ (why = true) := h_6
              refine lv_iconst (v := 0) hx hb dX6_answer_107 (by decide) ?_
              have hJ := J_5; (repeat rw [if_neg h_6] at hJ)
              (repeat rw [if_neg h_6] at f_s)
              first | exact hJ _ _ ⟨f_s, hS, hZ⟩ ls (lv_sub hl [0, 1, 2, 3, 4, 5] rfl) | ((repeat rw [if_neg h_6] at hl); (repeat rw [if_neg h_6]); (repeat rw [if_neg h_6] at f_s); exact hJ _ _ ⟨f_s, hS, hZ⟩ ls (lv_sub hl [0, 1, 2, 3, 4, 5] rfl))
            · have h_6 : why = true := h_6
              refine lv_iconst (v := 1) hx hb dX6_answer_103 (by decide) ?_
              refine lv_goto (tgt := 108) hx hb dX6_answer_104 (by decide) ?_
              have hJ := J_5; (repeat rw [if_pos h_6] at hJ)
              (repeat rw [if_pos h_6] at f_s)
              first | exact hJ _ _ ⟨f_s, hS, hZ⟩ ls (lv_sub hl [0, 1, 2, 3, 4, 5] rfl) | ((repeat rw [if_pos h_6] at hl); (repeat rw [if_pos h_6]); (repeat rw [if_pos h_6] at f_s); exact hJ _ _ ⟨f_s, hS, hZ⟩ ls (lv_sub hl [0, 1, 2, 3, 4, 5] rfl))
        · have h_4 : ((mS x) (2 : Int32).toNatClampNeg) = 40 := h_4
          refine lv_bipush (v := (-4)) hx hb dX6_answer_41 (by decide +kernel) ?_
          have hE9 : r_answer x child asking said why = ((-4), mS x) := (by (try unfold r_answer); (repeat rw [if_pos h_1]); (repeat rw [if_pos h_2]); (repeat rw [if_pos h_3]); (repeat rw [if_pos h_4]); first | done | rfl)
          exact wr_iret hx hb hr hlocks dX6_answer_43 hS (by rw [hE9]; exact f_s) (by rw [hE9]; first | done | rfl)
      · have h_3 : ¬ ((r_in said 0 2) = true) := h_3
        refine lv_bipush (v := (-2)) hx hb dX6_answer_27 (by decide +kernel) ?_
        have hE9 : r_answer x child asking said why = ((-2), mS x) := (by (try unfold r_answer); (repeat rw [if_pos h_1]); (repeat rw [if_pos h_2]); (repeat rw [if_neg h_3]); first | done | rfl)
        exact wr_iret hx hb hr hlocks dX6_answer_29 hS (by rw [hE9]; exact f_s) (by rw [hE9]; first | done | rfl)
    · have h_2 : ¬ ((r_isAsking x asking) = true) := h_2
      refine lv_iconst (v := (-1)) hx hb dX6_answer_16 (by decide) ?_
      have hE9 : r_answer x child asking said why = ((-1), mS x) := (by (try unfold r_answer); (repeat rw [if_pos h_1]); (repeat rw [if_neg h_2]); first | done | rfl)
      exact wr_iret hx hb hr hlocks dX6_answer_17 hS (by rw [hE9]; exact f_s) (by rw [hE9]; first | done | rfl)
theorem c2_X6_answer (l : Launch) (G : GG) (M : Nat → Nat) (x : MT) (child : Int32) (asking : Int32) (said : Int32) (why : Bool)  (hI : mI (mS x)) (hO : mO (mS x)) (hN : mN M) (r9 : Int32) (sv9 : Nat → Int32) (hy9 : r_answer x child asking said why = (r9, sv9)) : Met l yX6_answer wsX6_answer { frames := 2, cells := 0, slots := 0, locals := 43 } (roP G [.ref (M 0), .int child, .int asking, .int said, .int (b2i why)] (fun H => MAt G M x H)) (wrQ (some (.int r9)) (fun H => MAt G M (mSetS x sv9) H) (m1 M)) 0 0 (m1 M) := by
  have h9 := c_X6_answer l G M x child asking said why hI hO hN
  rw [hy9] at h9
  exact h9
theorem feed_n {n : Int32} (h : r_in n 1 8 = true) : n.toNatClampNeg ≤ 8 ∧ n = nI n.toNatClampNeg := by
  have h1 : ib 1 8 n := in_ib h rfl rfl
  obtain ⟨m, rfl, h2, h3⟩ := h1.nI_eq (by decide)
  rw [nI_clamp (by omega)]
  exact ⟨by omega, rfl⟩
theorem feed_step {sv : Nat → Int32} {k i : Nat} {v : Int32} (h : ib 0 (128 - ((k + 1 : Nat) : Int)) (sv 4)) (hk : k ≤ 8) (hi : 10 ≤ i) : ib 0 (128 - (k : Int)) (upd (upd sv i v) 4 (upd sv i v 4 + 1) 4) := by
  rw [upd_at, upd_ne (by omega)]
  exact (ib_add h (ib_nI (n := 1) (by decide)) (by decide) (by omega)).weak (by decide) (by omega)
theorem i_X6_feed_X6 : ∀ w ∈ wsX60, w ∈ wsX6_feed := fun _ h => List.mem_cons_of_mem _ (List.mem_append_right _ h)
theorem k_X6_feed_fieldLink_9 : Cond.fieldLink RX6 9 "SameWaterModel" "s" "[I" ∈ wsX6_feed := by decide +kernel
theorem k_X6_feed_constantLong_49 : Cond.constantLong RX6 49 (255) ∈ wsX6_feed := by decide +kernel
def r_feedGo (x : MT) (wv : Int64) : Nat → (Nat → Int32) → Int32 × (Nat → Int32)
  | 0, sv_k => (sv_k (4 : Int32).toNatClampNeg, sv_k)
  | k + 1, sv_k => r_feedGo x wv k (upd (upd sv_k (10 + (sv_k (4 : Int32).toNatClampNeg)).toNatClampNeg (((wv >>> ((8 * (nI k) : Int32).toInt64 &&& 63)) &&& 255 : Int64).toInt32)) (4 : Int32).toNatClampNeg (((upd sv_k (10 + (sv_k (4 : Int32).toNatClampNeg)).toNatClampNeg (((wv >>> ((8 * (nI k) : Int32).toInt64 &&& 63)) &&& 255 : Int64).toInt32)) (4 : Int32).toNatClampNeg) + 1))
theorem r_feedGo_0 (x : MT) (wv : Int64) (sv_k : Nat → Int32) : r_feedGo x wv 0 sv_k = ((sv_k (4 : Int32).toNatClampNeg, sv_k)) := rfl
theorem r_feedGo_s (x : MT) (wv : Int64) (k : Nat) (sv_k : Nat → Int32) : r_feedGo x wv (k + 1) sv_k = (r_feedGo x wv k (upd (upd sv_k (10 + (sv_k (4 : Int32).toNatClampNeg)).toNatClampNeg (((wv >>> ((8 * (nI k) : Int32).toInt64 &&& 63)) &&& 255 : Int64).toInt32)) (4 : Int32).toNatClampNeg (((upd sv_k (10 + (sv_k (4 : Int32).toNatClampNeg)).toNatClampNeg (((wv >>> ((8 * (nI k) : Int32).toInt64 &&& 63)) &&& 255 : Int64).toInt32)) (4 : Int32).toNatClampNeg) + 1))) := rfl
def r_feed (x : MT) (wv : Int64) (nn : Int32) : Int32 × (Nat → Int32) := if (r_in nn 1 8) = true then if (((mS x) (4 : Int32).toNatClampNeg) + nn) ≤ 120 then r_feedGo x wv nn.toNatClampNeg (mS x) else ((-4), mS x) else ((-2), mS x)
set_option maxHeartbeats 400000 in
set_option maxRecDepth 100000 in
theorem c_X6_feed (l : Launch) (G : GG) (M : Nat → Nat) (x : MT) (wv : Int64) (nn : Int32)  (hI : mI (mS x)) (hO : mO (mS x)) (hN : mN M) : Met l yX6_feed wsX6_feed { frames := 1, cells := 0, slots := 0, locals := 22 } (roP G [.ref (M 0), .long wv, .int nn] (fun H => MAt G M x H)) (wrQ (some (.int ((r_feed x wv nn).1))) (fun H => MAt G M (mSetS x ((r_feed x wv nn).2)) H) (m1 M)) 0 0 (m1 M) := by
  refine Met.ofW (cc := cX6_feed) (maxL := 5) (ret := (some .int)) (by decide) rfl ?_
  intro p e s m args below meth c s₁ Bd hml hv
  obtain ⟨rfl, hK, hB⟩ := hv
  have hx := Bd.exec
  have hb := Bd.bytes
  have hr := Bd.returns
  have hts := atoms_spec (ws := wsX6_feed) Bd.pre
  have hown : s.vm.findClass RX6 = some m.cls := findClass_of_methodNamed Bd.named
  have hlocks := Bd.notSynchronized
  have hC : CallFix p m c cX6_feed 5 s _ wsX6_feed RX6 := ⟨hx, hb, hml, hown, hts⟩
  have hl := lv_entry ([.ref (M 0), .long wv, .int nn]) (n := 5) (Nat.le_of_ble_eq_true rfl)
  rw [lg_entry_eq]
  generalize (lg_sl ([.ref (M 0), .long wv, .int nn]) ++ List.replicate (5 - (lg_sl ([.ref (M 0), .long wv, .int nn])).length) Slot.unset).toArray = ls at hl ⊢
  have hl : lv_has ls 5 [(0, .ref (M 0)), (1, .long wv), (3, .int nn)] := hl
  have hS : wS (m1 M) s.heap s.heap [] := wS.rf
  have f_s : MAt G M (mSetS x (mS x)) s.heap := hB
  have hZ := trivial
  have hC4 : ib 0 120 ((mS x) (4 : Int32).toNatClampNeg) := hI 4 (4, 4, 0, 120) (by decide) (Nat.le_refl _) (Nat.le_refl _)
  refine lv_iload_n hx hb dX6_feed_0 rfl (lv_at hl 2 rfl) ?_
  refine lv_iconst (v := 1) hx hb dX6_feed_1 (by decide) ?_
  refine lv_bipush (v := 8) hx hb dX6_feed_2 (by decide +kernel) ?_
  refine ro_call (va_runS (As := [.int nn, .int 1, .int 8]) (rest := []) hC (c_X6_in l G nn 1 8) (va_cwS 3 hts gX6_feed_X6_in rfl rfl rfl kd_X6_in ⟨Nat.le_of_ble_eq_true rfl, Nat.le_of_ble_eq_true rfl⟩) (ro_preS hK trivial) rfl rfl hl.1 rfl (lv_room (Nat.le_of_ble_eq_true rfl)) dX6_feed_4 ⟨Nat.zero_le _, Nat.zero_le _⟩) ?_
  refine bz_ne (tgt := 13) hx hb dX6_feed_7 (by decide) (fun h_1 => ?_) (fun h_1 => ?_)
  · have h_1 : (r_in nn 1 8) = true := h_1
    refine lv_aload_n hx hb dX6_feed_13 rfl (lv_at hl 0 rfl) ?_
    refine r_get (C := RX6) (T := TX6) (N := 18) hx hb hts i_X6_feed_X6 hown hK f_s.1 rfl 1 (by decide) k_X6_feed_fieldLink_9 rfl rfl dX6_feed_14 ?_
    refine lv_iconst (v := 4) hx hb dX6_feed_17 (by decide) ?_
    refine r_iald hx hb hK f_s.2.1 (vp_ib (lo := 4) (hi := 4) (ib_nI (n := 4) (by decide)) (by decide) (by decide)) dX6_feed_18 ?_
    refine lv_iload_n hx hb dX6_feed_19 rfl (lv_at hl 2 rfl) ?_
    refine lv_iadd hx hb dX6_feed_20 ?_
    refine lv_bipush (v := 120) hx hb dX6_feed_21 (by decide +kernel) ?_
    refine lv_icmp_le (tgt := 29) hx hb dX6_feed_23 (by decide) (fun h_2 => ?_) (fun h_2 => ?_)
    · have h_2 : (((mS x) (4 : Int32).toNatClampNeg) + nn) ≤ 120 := h_2
      refine lv_iload_n hx hb dX6_feed_29 rfl (lv_at hl 2 rfl) ?_
      refine lv_iconst (v := 1) hx hb dX6_feed_30 (by decide) ?_
      refine lv_isub hx hb dX6_feed_31 ?_
      refine lv_topi (fun z9 ez9 => ?_)
      have ez8 : z9 = nI nn.toNatClampNeg - 1 := ez9.trans (show nn - 1 = nI nn.toNatClampNeg - 1 by rw [← (feed_n h_1).2])
      clear ez9
      subst ez8
      refine lv_istore (lv' := [(4, .int (nI nn.toNatClampNeg - 1)), (0, .ref (M 0)), (1, .long wv), (3, .int nn)]) hx hb dX6_feed_32 hl (by decide) rfl (fun ls hl => ?_)
      refine loop_wr (nL := 5) (α := Nat × (Nat → Int32)) (fun a9 => [(0, .ref (M 0)), (1, .long wv), (3, .int nn), (4, .int (nI (a9.1) - 1))]) (fun a9 H locs => (a9.1 ≤ 8 ∧ r_feedGo x wv a9.1 a9.2 = r_feedGo x wv nn.toNatClampNeg (mS x)) ∧ (ib 0 (128 - ((a9.1) : Int)) ((a9.2) 4)) ∧ (MAt G M (mSetS x (a9.2)) H) ∧ wS (m1 M) s.heap H locs ∧ True) (fun a9 => a9.1) (nn.toNatClampNeg, mS x) ⟨⟨(feed_n h_1).1, rfl⟩, (hC4.weak (by decide) (by have := (feed_n h_1).1; omega)), f_s, hS, hZ⟩ (lv_sub hl [1, 2, 3, 0] rfl) (fun a9 H locs hI9 ih_k ls hl => ?_)
      obtain ⟨k, sv_k⟩ := a9
      obtain ⟨hI9, hX9, f_s, hS, hZ⟩ := hI9
      have hX9 : ib 0 (128 - (k : Int)) (sv_k 4) := hX9
      have f_s : MAt G M (mSetS x sv_k) H := f_s
      obtain ⟨hk_k, hV⟩ : k ≤ 8 ∧ r_feedGo x wv k sv_k = r_feedGo x wv nn.toNatClampNeg (mS x) := hI9
      have hl : lv_has ls 5 [(0, .ref (M 0)), (1, .long wv), (3, .int nn), (4, .int (nI k - 1))] := hl
      obtain rfl | ⟨k, rfl⟩ : k = 0 ∨ ∃ m, k = m + 1 := by cases k with | zero => exact .inl rfl | succ n => exact .inr ⟨n, rfl⟩
      · rw [show nI 0 - 1 = -1 from by decide] at hl
        have hl : lv_has ls 5 [(0, .ref (M 0)), (1, .long wv), (3, .int nn), (4, .int (-1))] := hl
        refine lv_iload hx hb dX6_feed_34 (lv_at hl 3 rfl) ?_
        refine lv_if_lt (tgt := 81) hx hb dX6_feed_36 (by decide) (fun h_3 => ?_) (fun h_3 => ?_)
        · have h_3 : ((-1) : Int32) < 0 := h_3
          refine lv_aload_n hx hb dX6_feed_81 rfl (lv_at hl 0 rfl) ?_
          refine r_get (C := RX6) (T := TX6) (N := 18) hx hb hts i_X6_feed_X6 hown hK f_s.1 rfl 1 (by decide) k_X6_feed_fieldLink_9 rfl rfl dX6_feed_82 ?_
          refine lv_iconst (v := 4) hx hb dX6_feed_85 (by decide) ?_
          refine r_iald hx hb hK f_s.2.1 (vp_ib (lo := 4) (hi := 4) (ib_nI (n := 4) (by decide)) (by decide) (by decide)) dX6_feed_86 ?_
          have hE9 : r_feed x wv nn = (sv_k (4 : Int32).toNatClampNeg, sv_k) := (by (try unfold r_feed); (repeat rw [if_pos h_1]); (repeat rw [if_pos h_2]); rw [← hV, r_feedGo_0]; (repeat rw [if_pos h_3]); first | done | rfl)
          exact wr_iret hx hb hr hlocks dX6_feed_87 hS (by rw [hE9]; exact f_s) (by rw [hE9]; first | done | rfl)
        · exact absurd (by decide) h_3
      · rw [show nI (k + 1) - 1 = nI k from by rw [nI_succ]; exact Int32.add_sub_cancel (nI k) 1] at hl
        have hl : lv_has ls 5 [(0, .ref (M 0)), (1, .long wv), (3, .int nn), (4, .int (nI k))] := hl
        refine lv_iload hx hb dX6_feed_34 (lv_at hl 3 rfl) ?_
        refine lv_if_lt (tgt := 81) hx hb dX6_feed_36 (by decide) (fun h_4 => ?_) (fun h_4 => ?_)
        · exact absurd h_4 (nI_pos (by omega))
        · have h_4 : ¬ ((nI k) < 0) := h_4
          refine lv_aload_n hx hb dX6_feed_39 rfl (lv_at hl 0 rfl) ?_
          refine r_get (C := RX6) (T := TX6) (N := 18) hx hb hts i_X6_feed_X6 hown hK f_s.1 rfl 1 (by decide) k_X6_feed_fieldLink_9 rfl rfl dX6_feed_40 ?_
          refine lv_bipush (v := 10) hx hb dX6_feed_43 (by decide +kernel) ?_
          refine lv_aload_n hx hb dX6_feed_45 rfl (lv_at hl 0 rfl) ?_
          refine r_get (C := RX6) (T := TX6) (N := 18) hx hb hts i_X6_feed_X6 hown hK f_s.1 rfl 1 (by decide) k_X6_feed_fieldLink_9 rfl rfl dX6_feed_46 ?_
          refine lv_iconst (v := 4) hx hb dX6_feed_49 (by decide) ?_
          refine r_iald hx hb hK f_s.2.1 (vp_ib (lo := 4) (hi := 4) (ib_nI (n := 4) (by decide)) (by decide) (by decide)) dX6_feed_50 ?_
          refine lv_iadd hx hb dX6_feed_51 ?_
          refine lv_lload_n hx hb dX6_feed_52 rfl (lv_at hl 1 rfl) ?_
          refine lv_bipush (v := 8) hx hb dX6_feed_53 (by decide +kernel) ?_
          refine lv_iload hx hb dX6_feed_55 (lv_at hl 3 rfl) ?_
          refine lv_imul hx hb dX6_feed_57 ?_
          refine lv_lshr (v := wv >>> ((8 * (nI k) : Int32).toInt64 &&& 63)) hx hb dX6_feed_58 rfl ?_
          refine lv_ldc2 (v := 255) hx hb hown (hts _ k_X6_feed_constantLong_49) dX6_feed_59 ?_
          refine lv_land hx hb dX6_feed_62 ?_
          refine lv_l2i (v := ((wv >>> ((8 * (nI k) : Int32).toInt64 &&& 63)) &&& 255 : Int64).toInt32) hx hb dX6_feed_63 rfl ?_
          refine w_iast hx hb hK f_s.2.1 hS rfl (vp_ib (lo := 10) (hi := 138) (ib_add (ib_nI (n := 10) (by decide)) (hX9.weak (lo2 := 0) (hi2 := 128) (by decide) (by omega)) (by decide) (by decide)) (by decide) (by decide)) dX6_feed_64 (fun H locs hn hq hS => ?_)
          have f_s : MAt G M (mSetS x (upd sv_k (10 + (sv_k (4 : Int32).toNatClampNeg)).toNatClampNeg (((wv >>> ((8 * (nI k) : Int32).toInt64 &&& 63)) &&& 255 : Int64).toInt32))) H := f_s.putS hN hn hq rfl rfl rfl rfl
          refine lv_aload_n hx hb dX6_feed_65 rfl (lv_at hl 0 rfl) ?_
          refine r_get (C := RX6) (T := TX6) (N := 18) hx hb hts i_X6_feed_X6 hown hK f_s.1 rfl 1 (by decide) k_X6_feed_fieldLink_9 rfl rfl dX6_feed_66 ?_
          refine lv_iconst (v := 4) hx hb dX6_feed_69 (by decide) ?_
          refine lv_dup2_11 hx hb dX6_feed_70 rfl rfl ?_
          refine r_iald hx hb hK f_s.2.1 (vp_ib (lo := 4) (hi := 4) (ib_nI (n := 4) (by decide)) (by decide) (by decide)) dX6_feed_71 ?_
          refine lv_iconst (v := 1) hx hb dX6_feed_72 (by decide) ?_
          refine lv_iadd hx hb dX6_feed_73 ?_
          refine w_iast hx hb hK f_s.2.1 hS rfl (vp_ib (lo := 4) (hi := 4) (ib_nI (n := 4) (by decide)) (by decide) (by decide)) dX6_feed_74 (fun H locs hn hq hS => ?_)
          have f_s : MAt G M (mSetS x (upd (upd sv_k (10 + (sv_k (4 : Int32).toNatClampNeg)).toNatClampNeg (((wv >>> ((8 * (nI k) : Int32).toInt64 &&& 63)) &&& 255 : Int64).toInt32)) (4 : Int32).toNatClampNeg (((upd sv_k (10 + (sv_k (4 : Int32).toNatClampNeg)).toNatClampNeg (((wv >>> ((8 * (nI k) : Int32).toInt64 &&& 63)) &&& 255 : Int64).toInt32)) (4 : Int32).toNatClampNeg) + 1))) H := f_s.putS hN hn hq rfl rfl rfl rfl
          refine lv_iinc (v := (nI k) + (-1)) (lv' := [(4, .int ((nI k) + (-1))), (0, .ref (M 0)), (1, .long wv), (3, .int nn)]) hx hb dX6_feed_75 hl (k := 3) rfl rfl (by decide) rfl (fun ls hl => ?_)
          refine lv_goto (tgt := 34) hx hb dX6_feed_78 (by decide) ?_
          have hE : r_feedGo x wv k (upd (upd sv_k (10 + (sv_k (4 : Int32).toNatClampNeg)).toNatClampNeg (((wv >>> ((8 * (nI k) : Int32).toInt64 &&& 63)) &&& 255 : Int64).toInt32)) (4 : Int32).toNatClampNeg (((upd sv_k (10 + (sv_k (4 : Int32).toNatClampNeg)).toNatClampNeg (((wv >>> ((8 * (nI k) : Int32).toInt64 &&& 63)) &&& 255 : Int64).toInt32)) (4 : Int32).toNatClampNeg) + 1)) = r_feedGo x wv nn.toNatClampNeg (mS x) := (by rw [← hV, r_feedGo_s]; (repeat rw [if_neg h_4]); first | done | rfl)
          refine ih_k (k, upd (upd sv_k (10 + (sv_k (4 : Int32).toNatClampNeg)).toNatClampNeg (((wv >>> ((8 * (nI k) : Int32).toInt64 &&& 63)) &&& 255 : Int64).toInt32)) (4 : Int32).toNatClampNeg (((upd sv_k (10 + (sv_k (4 : Int32).toNatClampNeg)).toNatClampNeg (((wv >>> ((8 * (nI k) : Int32).toInt64 &&& 63)) &&& 255 : Int64).toInt32)) (4 : Int32).toNatClampNeg) + 1)) _ _ ⟨⟨(by omega), hE⟩, (feed_step hX9 (by omega) (ib_c (lo := 10) (ib_add (ib_nI (n := 10) (by decide)) (hX9.weak (lo2 := 0) (hi2 := 128) (by decide) (by omega)) (by decide) (by decide)) (by decide))), f_s, hS, hZ⟩ (show k < k + 1 by omega) ls ?_
          show lv_has ls 5 [(0, .ref (M 0)), (1, .long wv), (3, .int nn), (4, .int (nI k - 1))]
          rw [Int32.sub_eq_add_neg (nI k) 1]
          exact lv_sub hl [1, 2, 3, 0] rfl
    · have h_2 : ¬ ((((mS x) (4 : Int32).toNatClampNeg) + nn) ≤ 120) := h_2
      refine lv_bipush (v := (-4)) hx hb dX6_feed_26 (by decide +kernel) ?_
      have hE9 : r_feed x wv nn = ((-4), mS x) := (by (try unfold r_feed); (repeat rw [if_pos h_1]); (repeat rw [if_neg h_2]); first | done | rfl)
      exact wr_iret hx hb hr hlocks dX6_feed_28 hS (by rw [hE9]; exact f_s) (by rw [hE9]; first | done | rfl)
  · have h_1 : ¬ ((r_in nn 1 8) = true) := h_1
    refine lv_bipush (v := (-2)) hx hb dX6_feed_10 (by decide +kernel) ?_
    have hE9 : r_feed x wv nn = ((-2), mS x) := (by (try unfold r_feed); (repeat rw [if_neg h_1]); first | done | rfl)
    exact wr_iret hx hb hr hlocks dX6_feed_12 hS (by rw [hE9]; exact f_s) (by rw [hE9]; first | done | rfl)
theorem c2_X6_feed (l : Launch) (G : GG) (M : Nat → Nat) (x : MT) (wv : Int64) (nn : Int32)  (hI : mI (mS x)) (hO : mO (mS x)) (hN : mN M) (r9 : Int32) (sv9 : Nat → Int32) (hy9 : r_feed x wv nn = (r9, sv9)) : Met l yX6_feed wsX6_feed { frames := 1, cells := 0, slots := 0, locals := 22 } (roP G [.ref (M 0), .long wv, .int nn] (fun H => MAt G M x H)) (wrQ (some (.int r9)) (fun H => MAt G M (mSetS x sv9) H) (m1 M)) 0 0 (m1 M) := by
  have h9 := c_X6_feed l G M x wv nn hI hO hN
  rw [hy9] at h9
  exact h9
def m02 (M : Nat → Nat) : Nat → Prop := fun q => q = M 0 ∨ q = M 2
theorem i_X6_image_X6 : ∀ w ∈ wsX60, w ∈ wsX6_image := fun _ h => List.mem_cons_of_mem _ (List.mem_append_right _ h)
theorem k_X6_image_fieldLink_260 : Cond.fieldLink RX6 260 "SameWaterModel" "hasImage" "Z" ∈ wsX6_image := by decide +kernel
theorem k_X6_image_fieldLink_9 : Cond.fieldLink RX6 9 "SameWaterModel" "s" "[I" ∈ wsX6_image := by decide +kernel
theorem k_X6_image_fieldLink_15 : Cond.fieldLink RX6 15 "SameWaterModel" "image" "[I" ∈ wsX6_image := by decide +kernel
def r_imageGo (x : MT) : Nat → Nat → (Nat → Int32) → Bool → Int32 × (Nat → Int32) × Bool
  | 0, _, im_k, _ => ((mS x) (0 : Int32).toNatClampNeg, im_k, true)
  | n + 1, k, im_k, hi_k => r_imageGo x n (k + 1) (upd im_k (nI k).toNatClampNeg ((mS x) (nI k).toNatClampNeg)) hi_k
theorem r_imageGo_0 (x : MT) (k : Nat) (im_k : Nat → Int32) (hi_k : Bool) : r_imageGo x 0 k im_k hi_k = (((mS x) (0 : Int32).toNatClampNeg, im_k, true)) := rfl
theorem r_imageGo_s (x : MT) (n k : Nat) (im_k : Nat → Int32) (hi_k : Bool) : r_imageGo x (n + 1) k im_k hi_k = (r_imageGo x n (k + 1) (upd im_k (nI k).toNatClampNeg ((mS x) (nI k).toNatClampNeg)) hi_k) := rfl
def r_image (x : MT) : Int32 × (Nat → Int32) × Bool := r_imageGo x 1920 0 (mIm x) (mHi x)
set_option maxHeartbeats 400000 in
set_option maxRecDepth 100000 in
theorem c_X6_image (l : Launch) (G : GG) (M : Nat → Nat) (x : MT)  (hN : mN M) : Met l yX6_image wsX6_image { frames := 0, cells := 0, slots := 0, locals := 0 } (roP G [.ref (M 0)] (fun H => MAt G M x H)) (wrQ (some (.int ((r_image x).1))) (fun H => MAt G M (mSetHi (mSetIm x ((r_image x).2.1)) ((r_image x).2.2)) H) (m02 M)) 0 0 (m02 M) := by
  refine Met.ofW (cc := cX6_image) (maxL := 2) (ret := (some .int)) (by decide) rfl ?_
  intro p e s m args below meth c s₁ Bd hml hv
  obtain ⟨rfl, hK, hB⟩ := hv
  have hx := Bd.exec
  have hb := Bd.bytes
  have hr := Bd.returns
  have hts := atoms_spec (ws := wsX6_image) Bd.pre
  have hown : s.vm.findClass RX6 = some m.cls := findClass_of_methodNamed Bd.named
  have hlocks := Bd.notSynchronized
  have hC : CallFix p m c cX6_image 2 s _ wsX6_image RX6 := ⟨hx, hb, hml, hown, hts⟩
  have hl := lv_entry ([.ref (M 0)]) (n := 2) (Nat.le_of_ble_eq_true rfl)
  rw [lg_entry_eq]
  generalize (lg_sl ([.ref (M 0)]) ++ List.replicate (2 - (lg_sl ([.ref (M 0)])).length) Slot.unset).toArray = ls at hl ⊢
  have hl : lv_has ls 2 [(0, .ref (M 0))] := hl
  have hS : wS (m02 M) s.heap s.heap [] := wS.rf
  have f_s : MAt G M (mSetHi (mSetIm x (mIm x)) (mHi x)) s.heap := hB
  have hZ := trivial
  refine lv_iconst (v := 0) hx hb dX6_image_0 (by decide) ?_
  refine lv_istore_n (lv' := [(1, .int 0), (0, .ref (M 0))]) hx hb dX6_image_1 rfl hl (by decide) rfl (fun ls hl => ?_)
  refine loop_wr (nL := 2) (α := Nat × (Nat → Int32) × Bool) (fun a9 => [(0, .ref (M 0)), (1, .int (nI (a9.1)))]) (fun a9 H locs => (a9.1 ≤ 1920 ∧ r_imageGo x (1920 - a9.1) a9.1 a9.2.1 a9.2.2 = r_imageGo x 1920 0 (mIm x) (mHi x)) ∧ (MAt G M (mSetHi (mSetIm x (a9.2.1)) (a9.2.2)) H) ∧ wS (m02 M) s.heap H locs ∧ True) (fun a9 => 1920 - a9.1) (0, mIm x, mHi x) ⟨⟨(by first | exact Nat.zero_le _ | decide | omega), rfl⟩, f_s, hS, hZ⟩ (lv_sub hl [1, 0] rfl) (fun a9 H locs hI9 ih_k ls hl => ?_)
  obtain ⟨k, im_k, hi_k⟩ := a9
  obtain ⟨hI9, f_s, hS, hZ⟩ := hI9
  have f_s : MAt G M (mSetHi (mSetIm x im_k) hi_k) H := f_s
  obtain ⟨hk_k, hV⟩ : k ≤ 1920 ∧ r_imageGo x (1920 - k) k im_k hi_k = r_imageGo x 1920 0 (mIm x) (mHi x) := hI9
  have hl : lv_has ls 2 [(0, .ref (M 0)), (1, .int (nI k))] := hl
  refine lv_iload_n hx hb dX6_image_2 rfl (lv_at hl 1 rfl) ?_
  refine lv_sipush (v := 1920) hx hb dX6_image_3 (by decide +kernel) ?_
  refine lv_icmp_ge (tgt := 27) hx hb dX6_image_6 (by decide) (fun h_1 => ?_) (fun h_1 => ?_)
  · have hN_k : k = 1920 := ge_ex (N := 1920) rfl h_1 hk_k (by omega)
    subst hN_k
    rw [Nat.sub_self] at hV
    refine lv_aload_n hx hb dX6_image_27 rfl (lv_at hl 0 rfl) ?_
    refine lv_iconst (v := 1) hx hb dX6_image_28 (by decide) ?_
    refine w_put (C := RX6) (T := TX6) (N := 18) hx hb hts i_X6_image_X6 tyX6 tyX6_ok nmX6 hown hK f_s.1 hS (.inl rfl) rfl 3 (by decide) k_X6_image_fieldLink_260 rfl rfl rfl rfl (Nat.le_of_ble_eq_true rfl) dX6_image_29 (fun H locs hn hq hS => ?_)
    have f_s : MAt G M (mSetHi (mSetIm x im_k) true) H := f_s.put0 hN hn hq rfl rfl rfl rfl
    refine lv_aload_n hx hb dX6_image_32 rfl (lv_at hl 0 rfl) ?_
    refine r_get (C := RX6) (T := TX6) (N := 18) hx hb hts i_X6_image_X6 hown hK f_s.1 rfl 1 (by decide) k_X6_image_fieldLink_9 rfl rfl dX6_image_33 ?_
    refine lv_iconst (v := 0) hx hb dX6_image_36 (by decide) ?_
    refine r_iald hx hb hK f_s.2.1 (show ¬ ((0 : Int32) < 0 ∨ 1920 ≤ (0 : Int32).toNatClampNeg) by decide) dX6_image_37 ?_
    have hE9 : r_image x = ((mS x) (0 : Int32).toNatClampNeg, im_k, true) := (by (try unfold r_image); rw [← hV, r_imageGo_0]; first | done | rfl)
    exact wr_iret hx hb hr hlocks dX6_image_38 hS (by rw [hE9]; exact f_s) (by rw [hE9]; first | done | rfl)
  · have hlt_k : k < 1920 := ge_in (N := 1920) rfl h_1 hk_k (by omega)
    obtain ⟨n9, hn9⟩ : ∃ n9, 1920 - k = n9 + 1 := ⟨1920 - k - 1, by omega⟩
    rw [hn9] at hV
    refine lv_aload_n hx hb dX6_image_9 rfl (lv_at hl 0 rfl) ?_
    refine r_get (C := RX6) (T := TX6) (N := 18) hx hb hts i_X6_image_X6 hown hK f_s.1 rfl 2 (by decide) k_X6_image_fieldLink_15 rfl rfl dX6_image_10 ?_
    refine lv_iload_n hx hb dX6_image_13 rfl (lv_at hl 1 rfl) ?_
    refine lv_aload_n hx hb dX6_image_14 rfl (lv_at hl 0 rfl) ?_
    refine r_get (C := RX6) (T := TX6) (N := 18) hx hb hts i_X6_image_X6 hown hK f_s.1 rfl 1 (by decide) k_X6_image_fieldLink_9 rfl rfl dX6_image_15 ?_
    refine lv_iload_n hx hb dX6_image_18 rfl (lv_at hl 1 rfl) ?_
    refine r_iald hx hb hK f_s.2.1 (vp_ib (lo := 0) (hi := 1919) (ib_lt (n := 1920) (by omega) (by decide)) (by decide) (by decide)) dX6_image_19 ?_
    refine w_iast hx hb hK f_s.2.2.1 hS (.inr rfl) (vp_ib (lo := 0) (hi := 1919) (ib_lt (n := 1920) (by omega) (by decide)) (by decide) (by decide)) dX6_image_20 (fun H locs hn hq hS => ?_)
    have f_s : MAt G M (mSetHi (mSetIm x (upd im_k (nI k).toNatClampNeg ((mS x) (nI k).toNatClampNeg))) hi_k) H := f_s.putIm hN hn hq rfl rfl rfl rfl
    refine lv_iinc (v := (nI k) + 1) (lv' := [(1, .int ((nI k) + 1)), (0, .ref (M 0))]) hx hb dX6_image_21 hl (k := 1) rfl rfl (by decide) rfl (fun ls hl => ?_)
    refine lv_goto (tgt := 2) hx hb dX6_image_24 (by decide) ?_
    have hE : r_imageGo x n9 (k + 1) (upd im_k (nI k).toNatClampNeg ((mS x) (nI k).toNatClampNeg)) hi_k = r_imageGo x 1920 0 (mIm x) (mHi x) := (by rw [← hV, r_imageGo_s]; first | done | rfl)
    refine ih_k ((k + 1, upd im_k (nI k).toNatClampNeg ((mS x) (nI k).toNatClampNeg), hi_k)) _ _ ⟨⟨(show k + 1 ≤ 1920 by omega), (by show r_imageGo x (1920 - (k + 1)) (k + 1) (upd im_k (nI k).toNatClampNeg ((mS x) (nI k).toNatClampNeg)) hi_k = _; rw [show 1920 - (k + 1) = n9 by omega]; exact hE)⟩, f_s, hS, hZ⟩ (show 1920 - (k + 1) < 1920 - k by omega) ls ?_
    show lv_has ls 2 [(0, .ref (M 0)), (1, .int (nI (k + 1)))]
    rw [nI_succ]
    exact lv_sub hl [1, 0] rfl
theorem c2_X6_image (l : Launch) (G : GG) (M : Nat → Nat) (x : MT)  (hN : mN M) (r9 : Int32) (im9 : Nat → Int32) (hi9 : Bool) (hy9 : r_image x = (r9, im9, hi9)) : Met l yX6_image wsX6_image { frames := 0, cells := 0, slots := 0, locals := 0 } (roP G [.ref (M 0)] (fun H => MAt G M x H)) (wrQ (some (.int r9)) (fun H => MAt G M (mSetHi (mSetIm x im9) hi9) H) (m02 M)) 0 0 (m02 M) := by
  have h9 := c_X6_image l G M x hN
  rw [hy9] at h9
  exact h9
theorem i_X6_undo_X6 : ∀ w ∈ wsX60, w ∈ wsX6_undo := fun _ h => List.mem_cons_of_mem _ (List.mem_append_right _ h)
theorem k_X6_undo_fieldLink_260 : Cond.fieldLink RX6 260 "SameWaterModel" "hasImage" "Z" ∈ wsX6_undo := by decide +kernel
theorem k_X6_undo_fieldLink_9 : Cond.fieldLink RX6 9 "SameWaterModel" "s" "[I" ∈ wsX6_undo := by decide +kernel
theorem k_X6_undo_fieldLink_15 : Cond.fieldLink RX6 15 "SameWaterModel" "image" "[I" ∈ wsX6_undo := by decide +kernel
def r_undoGo (x : MT) : Nat → Nat → (Nat → Int32) → Int32 × (Nat → Int32)
  | 0, _, sv_k => (sv_k (0 : Int32).toNatClampNeg, sv_k)
  | n + 1, k, sv_k => r_undoGo x n (k + 1) (upd sv_k (nI k).toNatClampNeg ((mIm x) (nI k).toNatClampNeg))
theorem r_undoGo_0 (x : MT) (k : Nat) (sv_k : Nat → Int32) : r_undoGo x 0 k sv_k = ((sv_k (0 : Int32).toNatClampNeg, sv_k)) := rfl
theorem r_undoGo_s (x : MT) (n k : Nat) (sv_k : Nat → Int32) : r_undoGo x (n + 1) k sv_k = (r_undoGo x n (k + 1) (upd sv_k (nI k).toNatClampNeg ((mIm x) (nI k).toNatClampNeg))) := rfl
def r_undo (x : MT)  : Int32 × (Nat → Int32) := if (mHi x) = true then r_undoGo x 1920 0 (mS x) else ((-3), mS x)
set_option maxHeartbeats 400000 in
set_option maxRecDepth 100000 in
theorem c_X6_undo (l : Launch) (G : GG) (M : Nat → Nat) (x : MT)   (hI : mI (mS x)) (hO : mO (mS x)) (hN : mN M) : Met l yX6_undo wsX6_undo { frames := 0, cells := 0, slots := 0, locals := 0 } (roP G [.ref (M 0)] (fun H => MAt G M x H)) (wrQ (some (.int ((r_undo x ).1))) (fun H => MAt G M (mSetS x ((r_undo x ).2)) H) (m1 M)) 0 0 (m1 M) := by
  refine Met.ofW (cc := cX6_undo) (maxL := 2) (ret := (some .int)) (by decide) rfl ?_
  intro p e s m args below meth c s₁ Bd hml hv
  obtain ⟨rfl, hK, hB⟩ := hv
  have hx := Bd.exec
  have hb := Bd.bytes
  have hr := Bd.returns
  have hts := atoms_spec (ws := wsX6_undo) Bd.pre
  have hown : s.vm.findClass RX6 = some m.cls := findClass_of_methodNamed Bd.named
  have hlocks := Bd.notSynchronized
  have hC : CallFix p m c cX6_undo 2 s _ wsX6_undo RX6 := ⟨hx, hb, hml, hown, hts⟩
  have hl := lv_entry ([.ref (M 0)]) (n := 2) (Nat.le_of_ble_eq_true rfl)
  rw [lg_entry_eq]
  generalize (lg_sl ([.ref (M 0)]) ++ List.replicate (2 - (lg_sl ([.ref (M 0)])).length) Slot.unset).toArray = ls at hl ⊢
  have hl : lv_has ls 2 [(0, .ref (M 0))] := hl
  have hS : wS (m1 M) s.heap s.heap [] := wS.rf
  have f_s : MAt G M (mSetS x (mS x)) s.heap := hB
  have hZ := trivial
  refine lv_aload_n hx hb dX6_undo_0 rfl (lv_at hl 0 rfl) ?_
  refine r_get (C := RX6) (T := TX6) (N := 18) hx hb hts i_X6_undo_X6 hown hK f_s.1 rfl 3 (by decide) k_X6_undo_fieldLink_260 rfl rfl dX6_undo_1 ?_
  refine bz_ne (tgt := 10) hx hb dX6_undo_4 (by decide) (fun h_1 => ?_) (fun h_1 => ?_)
  · have h_1 : (mHi x) = true := h_1
    refine lv_iconst (v := 0) hx hb dX6_undo_10 (by decide) ?_
    refine lv_istore_n (lv' := [(1, .int 0), (0, .ref (M 0))]) hx hb dX6_undo_11 rfl hl (by decide) rfl (fun ls hl => ?_)
    refine loop_wr (nL := 2) (α := Nat × (Nat → Int32)) (fun a9 => [(0, .ref (M 0)), (1, .int (nI (a9.1)))]) (fun a9 H locs => (a9.1 ≤ 1920 ∧ r_undoGo x (1920 - a9.1) a9.1 a9.2 = r_undoGo x 1920 0 (mS x)) ∧ (MAt G M (mSetS x (a9.2)) H) ∧ wS (m1 M) s.heap H locs ∧ True) (fun a9 => 1920 - a9.1) (0, mS x) ⟨⟨(by first | exact Nat.zero_le _ | decide | omega), rfl⟩, f_s, hS, hZ⟩ (lv_sub hl [1, 0] rfl) (fun a9 H locs hI9 ih_k ls hl => ?_)
    obtain ⟨k, sv_k⟩ := a9
    obtain ⟨hI9, f_s, hS, hZ⟩ := hI9
    have f_s : MAt G M (mSetS x sv_k) H := f_s
    obtain ⟨hk_k, hV⟩ : k ≤ 1920 ∧ r_undoGo x (1920 - k) k sv_k = r_undoGo x 1920 0 (mS x) := hI9
    have hl : lv_has ls 2 [(0, .ref (M 0)), (1, .int (nI k))] := hl
    refine lv_iload_n hx hb dX6_undo_12 rfl (lv_at hl 1 rfl) ?_
    refine lv_sipush (v := 1920) hx hb dX6_undo_13 (by decide +kernel) ?_
    refine lv_icmp_ge (tgt := 37) hx hb dX6_undo_16 (by decide) (fun h_2 => ?_) (fun h_2 => ?_)
    · have hN_k : k = 1920 := ge_ex (N := 1920) rfl h_2 hk_k (by omega)
      subst hN_k
      rw [Nat.sub_self] at hV
      refine lv_aload_n hx hb dX6_undo_37 rfl (lv_at hl 0 rfl) ?_
      refine r_get (C := RX6) (T := TX6) (N := 18) hx hb hts i_X6_undo_X6 hown hK f_s.1 rfl 1 (by decide) k_X6_undo_fieldLink_9 rfl rfl dX6_undo_38 ?_
      refine lv_iconst (v := 0) hx hb dX6_undo_41 (by decide) ?_
      refine r_iald hx hb hK f_s.2.1 (vp_ib (lo := 0) (hi := 0) (ib_nI (n := 0) (by decide)) (by decide) (by decide)) dX6_undo_42 ?_
      have hE9 : r_undo x  = (sv_k (0 : Int32).toNatClampNeg, sv_k) := (by (try unfold r_undo); (repeat rw [if_pos h_1]); rw [← hV, r_undoGo_0]; first | done | rfl)
      exact wr_iret hx hb hr hlocks dX6_undo_43 hS (by rw [hE9]; exact f_s) (by rw [hE9]; first | done | rfl)
    · have hlt_k : k < 1920 := ge_in (N := 1920) rfl h_2 hk_k (by omega)
      obtain ⟨n9, hn9⟩ : ∃ n9, 1920 - k = n9 + 1 := ⟨1920 - k - 1, by omega⟩
      rw [hn9] at hV
      refine lv_aload_n hx hb dX6_undo_19 rfl (lv_at hl 0 rfl) ?_
      refine r_get (C := RX6) (T := TX6) (N := 18) hx hb hts i_X6_undo_X6 hown hK f_s.1 rfl 1 (by decide) k_X6_undo_fieldLink_9 rfl rfl dX6_undo_20 ?_
      refine lv_iload_n hx hb dX6_undo_23 rfl (lv_at hl 1 rfl) ?_
      refine lv_aload_n hx hb dX6_undo_24 rfl (lv_at hl 0 rfl) ?_
      refine r_get (C := RX6) (T := TX6) (N := 18) hx hb hts i_X6_undo_X6 hown hK f_s.1 rfl 2 (by decide) k_X6_undo_fieldLink_15 rfl rfl dX6_undo_25 ?_
      refine lv_iload_n hx hb dX6_undo_28 rfl (lv_at hl 1 rfl) ?_
      refine r_iald hx hb hK f_s.2.2.1 (vp_ib (lo := 0) (hi := 1919) (ib_lt (n := 1920) (by omega) (by decide)) (by decide) (by decide)) dX6_undo_29 ?_
      refine w_iast hx hb hK f_s.2.1 hS rfl (vp_ib (lo := 0) (hi := 1919) (ib_lt (n := 1920) (by omega) (by decide)) (by decide) (by decide)) dX6_undo_30 (fun H locs hn hq hS => ?_)
      have f_s : MAt G M (mSetS x (upd sv_k (nI k).toNatClampNeg ((mIm x) (nI k).toNatClampNeg))) H := f_s.putS hN hn hq rfl rfl rfl rfl
      refine lv_iinc (v := (nI k) + 1) (lv' := [(1, .int ((nI k) + 1)), (0, .ref (M 0))]) hx hb dX6_undo_31 hl (k := 1) rfl rfl (by decide) rfl (fun ls hl => ?_)
      refine lv_goto (tgt := 12) hx hb dX6_undo_34 (by decide) ?_
      have hE : r_undoGo x n9 (k + 1) (upd sv_k (nI k).toNatClampNeg ((mIm x) (nI k).toNatClampNeg)) = r_undoGo x 1920 0 (mS x) := (by rw [← hV, r_undoGo_s]; first | done | rfl)
      refine ih_k ((k + 1, upd sv_k (nI k).toNatClampNeg ((mIm x) (nI k).toNatClampNeg))) _ _ ⟨⟨(show k + 1 ≤ 1920 by omega), (by show r_undoGo x (1920 - (k + 1)) (k + 1) (upd sv_k (nI k).toNatClampNeg ((mIm x) (nI k).toNatClampNeg)) = _; rw [show 1920 - (k + 1) = n9 by omega]; exact hE)⟩, f_s, hS, hZ⟩ (show 1920 - (k + 1) < 1920 - k by omega) ls ?_
      show lv_has ls 2 [(0, .ref (M 0)), (1, .int (nI (k + 1)))]
      rw [nI_succ]
      exact lv_sub hl [1, 0] rfl
  · have h_1 : ¬ ((mHi x) = true) := h_1
    refine lv_bipush (v := (-3)) hx hb dX6_undo_7 (by decide +kernel) ?_
    have hE9 : r_undo x  = ((-3), mS x) := (by (try unfold r_undo); (repeat rw [if_neg h_1]); first | done | rfl)
    exact wr_iret hx hb hr hlocks dX6_undo_9 hS (by rw [hE9]; exact f_s) (by rw [hE9]; first | done | rfl)
theorem c2_X6_undo (l : Launch) (G : GG) (M : Nat → Nat) (x : MT)   (hI : mI (mS x)) (hO : mO (mS x)) (hN : mN M) (r9 : Int32) (sv9 : Nat → Int32) (hy9 : r_undo x  = (r9, sv9)) : Met l yX6_undo wsX6_undo { frames := 0, cells := 0, slots := 0, locals := 0 } (roP G [.ref (M 0)] (fun H => MAt G M x H)) (wrQ (some (.int r9)) (fun H => MAt G M (mSetS x sv9) H) (m1 M)) 0 0 (m1 M) := by
  have h9 := c_X6_undo l G M x hI hO hN
  rw [hy9] at h9
  exact h9
theorem i_X6_count_X6 : ∀ w ∈ wsX60, w ∈ wsX6_count := fun _ h => List.mem_cons_of_mem _ (List.mem_append_right _ h)
theorem k_X6_count_fieldLink_9 : Cond.fieldLink RX6 9 "SameWaterModel" "s" "[I" ∈ wsX6_count := by decide +kernel
theorem k_X6_count_fieldLink_221 : Cond.fieldLink RX6 221 "SameWaterModel" "ran" "I" ∈ wsX6_count := by decide +kernel
def r_count (x : MT) (what : Int32) : Int32 := if what = 0 then (mS x) (0 : Int32).toNatClampNeg else if what = 1 then (mS x) (1 : Int32).toNatClampNeg else if what = 2 then (mS x) (2 : Int32).toNatClampNeg else if what = 3 then (mS x) (3 : Int32).toNatClampNeg else if what = 4 then (mS x) (4 : Int32).toNatClampNeg else if what = 5 then mRa x else (-1)
set_option maxHeartbeats 4000000 in
set_option maxRecDepth 100000 in
theorem c_X6_count (l : Launch) (G : GG) (M : Nat → Nat) (x : MT) (what : Int32)  (hI : mI (mS x)) (hO : mO (mS x)) : Met l yX6_count wsX6_count { frames := 0, cells := 0, slots := 0, locals := 0 } (roP G [.ref (M 0), .int what] (fun H => MAt G M x H)) (roQ (some (.int (r_count x what)))) 0 0 nF := by
  refine Met.ofW (cc := cX6_count) (maxL := 2) (ret := (some .int)) (by decide) rfl ?_
  intro p e s m args below meth c s₁ Bd hml hv
  obtain ⟨rfl, hK, hB⟩ := hv
  have hx := Bd.exec
  have hb := Bd.bytes
  have hr := Bd.returns
  have hts := atoms_spec (ws := wsX6_count) Bd.pre
  have hown : s.vm.findClass RX6 = some m.cls := findClass_of_methodNamed Bd.named
  have hlocks := Bd.notSynchronized
  have hC : CallFix p m c cX6_count 2 s _ wsX6_count RX6 := ⟨hx, hb, hml, hown, hts⟩
  have hl := lv_entry ([.ref (M 0), .int what]) (n := 2) (Nat.le_of_ble_eq_true rfl)
  rw [lg_entry_eq]
  generalize (lg_sl ([.ref (M 0), .int what]) ++ List.replicate (2 - (lg_sl ([.ref (M 0), .int what])).length) Slot.unset).toArray = ls at hl ⊢
  have hl : lv_has ls 2 [(0, .ref (M 0)), (1, .int what)] := hl
  refine lv_iload_n hx hb dX6_count_0 rfl (lv_at hl 1 rfl) ?_
  rcases Classical.em (what = 0) with h_1 | h_1
  · refine lv_tableIn (off := 39) (tgt := 40) hx hb dX6_count_1 (by rw [h_1]; decide) (by rw [h_1]; decide) (by rw [h_1]; rfl) (by decide) ?_
    refine lv_aload_n hx hb dX6_count_40 rfl (lv_at hl 0 rfl) ?_
    refine r_get (C := RX6) (T := TX6) (N := 18) hx hb hts i_X6_count_X6 hown hK hB.1 rfl 1 (by decide) k_X6_count_fieldLink_9 rfl rfl dX6_count_41 ?_
    refine lv_iconst (v := 0) hx hb dX6_count_44 (by decide) ?_
    refine r_iald hx hb hK hB.2.1 (vp_ib (lo := 0) (hi := 0) (ib_nI (n := 0) (by decide)) (by decide) (by decide)) dX6_count_45 ?_
    exact ro_iret hx hb hr hlocks dX6_count_46 (by (try unfold r_count); (repeat rw [if_pos h_1]); first | done | rfl)
  · rcases Classical.em (what = 1) with h_2 | h_2
    · refine lv_tableIn (off := 46) (tgt := 47) hx hb dX6_count_1 (by rw [h_2]; decide) (by rw [h_2]; decide) (by rw [h_2]; rfl) (by decide) ?_
      refine lv_aload_n hx hb dX6_count_47 rfl (lv_at hl 0 rfl) ?_
      refine r_get (C := RX6) (T := TX6) (N := 18) hx hb hts i_X6_count_X6 hown hK hB.1 rfl 1 (by decide) k_X6_count_fieldLink_9 rfl rfl dX6_count_48 ?_
      refine lv_iconst (v := 1) hx hb dX6_count_51 (by decide) ?_
      refine r_iald hx hb hK hB.2.1 (vp_ib (lo := 1) (hi := 1) (ib_nI (n := 1) (by decide)) (by decide) (by decide)) dX6_count_52 ?_
      exact ro_iret hx hb hr hlocks dX6_count_53 (by (try unfold r_count); (repeat rw [if_neg h_1]); (repeat rw [if_pos h_2]); first | done | rfl)
    · rcases Classical.em (what = 2) with h_3 | h_3
      · refine lv_tableIn (off := 53) (tgt := 54) hx hb dX6_count_1 (by rw [h_3]; decide) (by rw [h_3]; decide) (by rw [h_3]; rfl) (by decide) ?_
        refine lv_aload_n hx hb dX6_count_54 rfl (lv_at hl 0 rfl) ?_
        refine r_get (C := RX6) (T := TX6) (N := 18) hx hb hts i_X6_count_X6 hown hK hB.1 rfl 1 (by decide) k_X6_count_fieldLink_9 rfl rfl dX6_count_55 ?_
        refine lv_iconst (v := 2) hx hb dX6_count_58 (by decide) ?_
        refine r_iald hx hb hK hB.2.1 (vp_ib (lo := 2) (hi := 2) (ib_nI (n := 2) (by decide)) (by decide) (by decide)) dX6_count_59 ?_
        exact ro_iret hx hb hr hlocks dX6_count_60 (by (try unfold r_count); (repeat rw [if_neg h_1]); (repeat rw [if_neg h_2]); (repeat rw [if_pos h_3]); first | done | rfl)
      · rcases Classical.em (what = 3) with h_4 | h_4
        · refine lv_tableIn (off := 60) (tgt := 61) hx hb dX6_count_1 (by rw [h_4]; decide) (by rw [h_4]; decide) (by rw [h_4]; rfl) (by decide) ?_
          refine lv_aload_n hx hb dX6_count_61 rfl (lv_at hl 0 rfl) ?_
          refine r_get (C := RX6) (T := TX6) (N := 18) hx hb hts i_X6_count_X6 hown hK hB.1 rfl 1 (by decide) k_X6_count_fieldLink_9 rfl rfl dX6_count_62 ?_
          refine lv_iconst (v := 3) hx hb dX6_count_65 (by decide) ?_
          refine r_iald hx hb hK hB.2.1 (vp_ib (lo := 3) (hi := 3) (ib_nI (n := 3) (by decide)) (by decide) (by decide)) dX6_count_66 ?_
          exact ro_iret hx hb hr hlocks dX6_count_67 (by (try unfold r_count); (repeat rw [if_neg h_1]); (repeat rw [if_neg h_2]); (repeat rw [if_neg h_3]); (repeat rw [if_pos h_4]); first | done | rfl)
        · rcases Classical.em (what = 4) with h_5 | h_5
          · refine lv_tableIn (off := 67) (tgt := 68) hx hb dX6_count_1 (by rw [h_5]; decide) (by rw [h_5]; decide) (by rw [h_5]; rfl) (by decide) ?_
            refine lv_aload_n hx hb dX6_count_68 rfl (lv_at hl 0 rfl) ?_
            refine r_get (C := RX6) (T := TX6) (N := 18) hx hb hts i_X6_count_X6 hown hK hB.1 rfl 1 (by decide) k_X6_count_fieldLink_9 rfl rfl dX6_count_69 ?_
            refine lv_iconst (v := 4) hx hb dX6_count_72 (by decide) ?_
            refine r_iald hx hb hK hB.2.1 (vp_ib (lo := 4) (hi := 4) (ib_nI (n := 4) (by decide)) (by decide) (by decide)) dX6_count_73 ?_
            exact ro_iret hx hb hr hlocks dX6_count_74 (by (try unfold r_count); (repeat rw [if_neg h_1]); (repeat rw [if_neg h_2]); (repeat rw [if_neg h_3]); (repeat rw [if_neg h_4]); (repeat rw [if_pos h_5]); first | done | rfl)
          · rcases Classical.em (what = 5) with h_6 | h_6
            · refine lv_tableIn (off := 74) (tgt := 75) hx hb dX6_count_1 (by rw [h_6]; decide) (by rw [h_6]; decide) (by rw [h_6]; rfl) (by decide) ?_
              refine lv_aload_n hx hb dX6_count_75 rfl (lv_at hl 0 rfl) ?_
              refine r_get (C := RX6) (T := TX6) (N := 18) hx hb hts i_X6_count_X6 hown hK hB.1 rfl 14 (by decide) k_X6_count_fieldLink_221 rfl rfl dX6_count_76 ?_
              exact ro_iret hx hb hr hlocks dX6_count_79 (by (try unfold r_count); (repeat rw [if_neg h_1]); (repeat rw [if_neg h_2]); (repeat rw [if_neg h_3]); (repeat rw [if_neg h_4]); (repeat rw [if_neg h_5]); (repeat rw [if_pos h_6]); first | done | rfl)
            · refine lv_tableOut (tgt := 80) hx hb dX6_count_1 (by have z0 := lv_neT h_1 (a := 0) rfl; have z1 := lv_neT h_2 (a := 1) rfl; have z2 := lv_neT h_3 (a := 2) rfl; have z3 := lv_neT h_4 (a := 3) rfl; have z4 := lv_neT h_5 (a := 4) rfl; have z5 := lv_neT h_6 (a := 5) rfl; omega) (by decide) ?_
              refine lv_iconst (v := (-1)) hx hb dX6_count_80 (by decide) ?_
              exact ro_iret hx hb hr hlocks dX6_count_81 (by (try unfold r_count); (repeat rw [if_neg h_1]); (repeat rw [if_neg h_2]); (repeat rw [if_neg h_3]); (repeat rw [if_neg h_4]); (repeat rw [if_neg h_5]); (repeat rw [if_neg h_6]); first | done | rfl)
def r_isUnder (kind : Int32) (kk : Int32) : Bool := (if kk = 0 then true else if kk = kind then true else if kk = 1 then if kind = 4 then true else if kk = 2 then if kind = 3 then true else if kind = 5 then true else if kind = 6 then true else if kk = 3 then if kind = 6 then true else false else false else if kk = 3 then if kind = 6 then true else false else false else if kk = 2 then if kind = 3 then true else if kind = 5 then true else if kind = 6 then true else if kk = 3 then if kind = 6 then true else false else false else if kk = 3 then if kind = 6 then true else false else false)
set_option maxHeartbeats 4000000 in
set_option maxRecDepth 100000 in
theorem c_X6_isUnder (l : Launch) (G : GG) (kind : Int32) (kk : Int32)  : Met l yX6_isUnder wsX6_isUnder { frames := 0, cells := 0, slots := 0, locals := 0 } (roP G [.int kind, .int kk] (fun H => True)) (roQ (some (.int (b2i (r_isUnder kind kk))))) 0 0 nF := by
  refine Met.ofW (cc := cX6_isUnder) (maxL := 2) (ret := (some .boolean)) (by decide) rfl ?_
  intro p e s m args below meth c s₁ Bd hml hv
  obtain ⟨rfl, hK, hB⟩ := hv
  have hx := Bd.exec
  have hb := Bd.bytes
  have hr := Bd.returns
  have hts := atoms_spec (ws := wsX6_isUnder) Bd.pre
  have hown : s.vm.findClass RX6 = some m.cls := findClass_of_methodNamed Bd.named
  have hlocks := Bd.notSynchronized
  have hC : CallFix p m c cX6_isUnder 2 s _ wsX6_isUnder RX6 := ⟨hx, hb, hml, hown, hts⟩
  have hl := lv_entry ([.int kind, .int kk]) (n := 2) (Nat.le_of_ble_eq_true rfl)
  rw [lg_entry_eq]
  generalize (lg_sl ([.int kind, .int kk]) ++ List.replicate (2 - (lg_sl ([.int kind, .int kk])).length) Slot.unset).toArray = ls at hl ⊢
  have hl : lv_has ls 2 [(0, .int kind), (1, .int kk)] := hl
  refine lv_iload_n hx hb dX6_isUnder_0 rfl (lv_at hl 1 rfl) ?_
  refine join_at (nL := 2) 56 [(0, .int kind), (1, .int kk)] [.int (b2i (if kk = 0 then true else if kk = kind then true else if kk = 1 then if kind = 4 then true else if kk = 2 then if kind = 3 then true else if kind = 5 then true else if kind = 6 then true else if kk = 3 then if kind = 6 then true else false else false else if kk = 3 then if kind = 6 then true else false else false else if kk = 2 then if kind = 3 then true else if kind = 5 then true else if kind = 6 then true else if kk = 3 then if kind = 6 then true else false else false else if kk = 3 then if kind = 6 then true else false else false))] (fun ls hl => ?_) (fun J_1 => ?_)
  · exact ro_zret hx hb hr hlocks dX6_isUnder_56 rfl
  · refine lv_if_eq (tgt := 51) hx hb dX6_isUnder_1 (by decide) (fun h_2 => ?_) (fun h_2 => ?_)
    · refine lv_iconst (v := 1) hx hb dX6_isUnder_51 (by decide) ?_
      refine lv_goto (tgt := 56) hx hb dX6_isUnder_52 (by decide) ?_
      have hJ := J_1; (repeat rw [if_pos h_2] at hJ)
      first | exact hJ ls (lv_sub hl [0, 1] rfl) | ((repeat rw [if_pos h_2] at hl); (repeat rw [if_pos h_2]); exact hJ ls (lv_sub hl [0, 1] rfl))
    · refine lv_iload_n hx hb dX6_isUnder_4 rfl (lv_at hl 1 rfl) ?_
      refine lv_iload_n hx hb dX6_isUnder_5 rfl (lv_at hl 0 rfl) ?_
      refine lv_icmp_eq (tgt := 51) hx hb dX6_isUnder_6 (by decide) (fun h_3 => ?_) (fun h_3 => ?_)
      · refine lv_iconst (v := 1) hx hb dX6_isUnder_51 (by decide) ?_
        refine lv_goto (tgt := 56) hx hb dX6_isUnder_52 (by decide) ?_
        have hJ := J_1; (repeat rw [if_neg h_2] at hJ); (repeat rw [if_pos h_3] at hJ)
        first | exact hJ ls (lv_sub hl [0, 1] rfl) | ((repeat rw [if_neg h_2] at hl); (repeat rw [if_pos h_3] at hl); (repeat rw [if_neg h_2]); (repeat rw [if_pos h_3]); exact hJ ls (lv_sub hl [0, 1] rfl))
      · refine lv_iload_n hx hb dX6_isUnder_9 rfl (lv_at hl 1 rfl) ?_
        refine lv_iconst (v := 1) hx hb dX6_isUnder_10 (by decide) ?_
        refine lv_icmp_ne (tgt := 19) hx hb dX6_isUnder_11 (by decide) (fun h_4 => ?_) (fun h_4 => ?_)
        · refine lv_iload_n hx hb dX6_isUnder_19 rfl (lv_at hl 1 rfl) ?_
          refine lv_iconst (v := 2) hx hb dX6_isUnder_20 (by decide) ?_
          refine lv_icmp_ne (tgt := 40) hx hb dX6_isUnder_21 (by decide) (fun h_5 => ?_) (fun h_5 => ?_)
          · refine lv_iload_n hx hb dX6_isUnder_40 rfl (lv_at hl 1 rfl) ?_
            refine lv_iconst (v := 3) hx hb dX6_isUnder_41 (by decide) ?_
            refine lv_icmp_ne (tgt := 55) hx hb dX6_isUnder_42 (by decide) (fun h_6 => ?_) (fun h_6 => ?_)
            · refine lv_iconst (v := 0) hx hb dX6_isUnder_55 (by decide) ?_
              have hJ := J_1; (repeat rw [if_neg h_2] at hJ); (repeat rw [if_neg h_3] at hJ); (repeat rw [if_neg h_4] at hJ); (repeat rw [if_neg h_5] at hJ); (repeat rw [if_neg h_6] at hJ)
              first | exact hJ ls (lv_sub hl [0, 1] rfl) | ((repeat rw [if_neg h_2] at hl); (repeat rw [if_neg h_3] at hl); (repeat rw [if_neg h_4] at hl); (repeat rw [if_neg h_5] at hl); (repeat rw [if_neg h_6] at hl); (repeat rw [if_neg h_2]); (repeat rw [if_neg h_3]); (repeat rw [if_neg h_4]); (repeat rw [if_neg h_5]); (repeat rw [if_neg h_6]); exact hJ ls (lv_sub hl [0, 1] rfl))
            · refine lv_iload_n hx hb dX6_isUnder_45 rfl (lv_at hl 0 rfl) ?_
              refine lv_bipush (v := 6) hx hb dX6_isUnder_46 (by decide +kernel) ?_
              refine lv_icmp_ne (tgt := 55) hx hb dX6_isUnder_48 (by decide) (fun h_7 => ?_) (fun h_7 => ?_)
              · refine lv_iconst (v := 0) hx hb dX6_isUnder_55 (by decide) ?_
                have hJ := J_1; (repeat rw [if_neg h_2] at hJ); (repeat rw [if_neg h_3] at hJ); (repeat rw [if_neg h_4] at hJ); (repeat rw [if_neg h_5] at hJ); (repeat rw [if_pos h_6] at hJ); (repeat rw [if_neg h_7] at hJ)
                first | exact hJ ls (lv_sub hl [0, 1] rfl) | ((repeat rw [if_neg h_2] at hl); (repeat rw [if_neg h_3] at hl); (repeat rw [if_neg h_4] at hl); (repeat rw [if_neg h_5] at hl); (repeat rw [if_pos h_6] at hl); (repeat rw [if_neg h_7] at hl); (repeat rw [if_neg h_2]); (repeat rw [if_neg h_3]); (repeat rw [if_neg h_4]); (repeat rw [if_neg h_5]); (repeat rw [if_pos h_6]); (repeat rw [if_neg h_7]); exact hJ ls (lv_sub hl [0, 1] rfl))
              · refine lv_iconst (v := 1) hx hb dX6_isUnder_51 (by decide) ?_
                refine lv_goto (tgt := 56) hx hb dX6_isUnder_52 (by decide) ?_
                have hJ := J_1; (repeat rw [if_neg h_2] at hJ); (repeat rw [if_neg h_3] at hJ); (repeat rw [if_neg h_4] at hJ); (repeat rw [if_neg h_5] at hJ); (repeat rw [if_pos h_6] at hJ); (repeat rw [if_pos h_7] at hJ)
                first | exact hJ ls (lv_sub hl [0, 1] rfl) | ((repeat rw [if_neg h_2] at hl); (repeat rw [if_neg h_3] at hl); (repeat rw [if_neg h_4] at hl); (repeat rw [if_neg h_5] at hl); (repeat rw [if_pos h_6] at hl); (repeat rw [if_pos h_7] at hl); (repeat rw [if_neg h_2]); (repeat rw [if_neg h_3]); (repeat rw [if_neg h_4]); (repeat rw [if_neg h_5]); (repeat rw [if_pos h_6]); (repeat rw [if_pos h_7]); exact hJ ls (lv_sub hl [0, 1] rfl))
          · refine lv_iload_n hx hb dX6_isUnder_24 rfl (lv_at hl 0 rfl) ?_
            refine lv_iconst (v := 3) hx hb dX6_isUnder_25 (by decide) ?_
            refine lv_icmp_eq (tgt := 51) hx hb dX6_isUnder_26 (by decide) (fun h_8 => ?_) (fun h_8 => ?_)
            · refine lv_iconst (v := 1) hx hb dX6_isUnder_51 (by decide) ?_
              refine lv_goto (tgt := 56) hx hb dX6_isUnder_52 (by decide) ?_
              have hJ := J_1; (repeat rw [if_neg h_2] at hJ); (repeat rw [if_neg h_3] at hJ); (repeat rw [if_neg h_4] at hJ); (repeat rw [if_pos h_5] at hJ); (repeat rw [if_pos h_8] at hJ)
              first | exact hJ ls (lv_sub hl [0, 1] rfl) | ((repeat rw [if_neg h_2] at hl); (repeat rw [if_neg h_3] at hl); (repeat rw [if_neg h_4] at hl); (repeat rw [if_pos h_5] at hl); (repeat rw [if_pos h_8] at hl); (repeat rw [if_neg h_2]); (repeat rw [if_neg h_3]); (repeat rw [if_neg h_4]); (repeat rw [if_pos h_5]); (repeat rw [if_pos h_8]); exact hJ ls (lv_sub hl [0, 1] rfl))
            · refine lv_iload_n hx hb dX6_isUnder_29 rfl (lv_at hl 0 rfl) ?_
              refine lv_iconst (v := 5) hx hb dX6_isUnder_30 (by decide) ?_
              refine lv_icmp_eq (tgt := 51) hx hb dX6_isUnder_31 (by decide) (fun h_9 => ?_) (fun h_9 => ?_)
              · refine lv_iconst (v := 1) hx hb dX6_isUnder_51 (by decide) ?_
                refine lv_goto (tgt := 56) hx hb dX6_isUnder_52 (by decide) ?_
                have hJ := J_1; (repeat rw [if_neg h_2] at hJ); (repeat rw [if_neg h_3] at hJ); (repeat rw [if_neg h_4] at hJ); (repeat rw [if_pos h_5] at hJ); (repeat rw [if_neg h_8] at hJ); (repeat rw [if_pos h_9] at hJ)
                first | exact hJ ls (lv_sub hl [0, 1] rfl) | ((repeat rw [if_neg h_2] at hl); (repeat rw [if_neg h_3] at hl); (repeat rw [if_neg h_4] at hl); (repeat rw [if_pos h_5] at hl); (repeat rw [if_neg h_8] at hl); (repeat rw [if_pos h_9] at hl); (repeat rw [if_neg h_2]); (repeat rw [if_neg h_3]); (repeat rw [if_neg h_4]); (repeat rw [if_pos h_5]); (repeat rw [if_neg h_8]); (repeat rw [if_pos h_9]); exact hJ ls (lv_sub hl [0, 1] rfl))
              · refine lv_iload_n hx hb dX6_isUnder_34 rfl (lv_at hl 0 rfl) ?_
                refine lv_bipush (v := 6) hx hb dX6_isUnder_35 (by decide +kernel) ?_
                refine lv_icmp_eq (tgt := 51) hx hb dX6_isUnder_37 (by decide) (fun h_10 => ?_) (fun h_10 => ?_)
                · refine lv_iconst (v := 1) hx hb dX6_isUnder_51 (by decide) ?_
                  refine lv_goto (tgt := 56) hx hb dX6_isUnder_52 (by decide) ?_
                  have hJ := J_1; (repeat rw [if_neg h_2] at hJ); (repeat rw [if_neg h_3] at hJ); (repeat rw [if_neg h_4] at hJ); (repeat rw [if_pos h_5] at hJ); (repeat rw [if_neg h_8] at hJ); (repeat rw [if_neg h_9] at hJ); (repeat rw [if_pos h_10] at hJ)
                  first | exact hJ ls (lv_sub hl [0, 1] rfl) | ((repeat rw [if_neg h_2] at hl); (repeat rw [if_neg h_3] at hl); (repeat rw [if_neg h_4] at hl); (repeat rw [if_pos h_5] at hl); (repeat rw [if_neg h_8] at hl); (repeat rw [if_neg h_9] at hl); (repeat rw [if_pos h_10] at hl); (repeat rw [if_neg h_2]); (repeat rw [if_neg h_3]); (repeat rw [if_neg h_4]); (repeat rw [if_pos h_5]); (repeat rw [if_neg h_8]); (repeat rw [if_neg h_9]); (repeat rw [if_pos h_10]); exact hJ ls (lv_sub hl [0, 1] rfl))
                · refine lv_iload_n hx hb dX6_isUnder_40 rfl (lv_at hl 1 rfl) ?_
                  refine lv_iconst (v := 3) hx hb dX6_isUnder_41 (by decide) ?_
                  refine lv_icmp_ne (tgt := 55) hx hb dX6_isUnder_42 (by decide) (fun h_11 => ?_) (fun h_11 => ?_)
                  · refine lv_iconst (v := 0) hx hb dX6_isUnder_55 (by decide) ?_
                    have hJ := J_1; (repeat rw [if_neg h_2] at hJ); (repeat rw [if_neg h_3] at hJ); (repeat rw [if_neg h_4] at hJ); (repeat rw [if_pos h_5] at hJ); (repeat rw [if_neg h_8] at hJ); (repeat rw [if_neg h_9] at hJ); (repeat rw [if_neg h_10] at hJ); (repeat rw [if_neg h_11] at hJ)
                    first | exact hJ ls (lv_sub hl [0, 1] rfl) | ((repeat rw [if_neg h_2] at hl); (repeat rw [if_neg h_3] at hl); (repeat rw [if_neg h_4] at hl); (repeat rw [if_pos h_5] at hl); (repeat rw [if_neg h_8] at hl); (repeat rw [if_neg h_9] at hl); (repeat rw [if_neg h_10] at hl); (repeat rw [if_neg h_11] at hl); (repeat rw [if_neg h_2]); (repeat rw [if_neg h_3]); (repeat rw [if_neg h_4]); (repeat rw [if_pos h_5]); (repeat rw [if_neg h_8]); (repeat rw [if_neg h_9]); (repeat rw [if_neg h_10]); (repeat rw [if_neg h_11]); exact hJ ls (lv_sub hl [0, 1] rfl))
                  · refine lv_iload_n hx hb dX6_isUnder_45 rfl (lv_at hl 0 rfl) ?_
                    refine lv_bipush (v := 6) hx hb dX6_isUnder_46 (by decide +kernel) ?_
                    refine lv_icmp_ne (tgt := 55) hx hb dX6_isUnder_48 (by decide) (fun h_12 => ?_) (fun h_12 => ?_)
                    · refine lv_iconst (v := 0) hx hb dX6_isUnder_55 (by decide) ?_
                      have hJ := J_1; (repeat rw [if_neg h_2] at hJ); (repeat rw [if_neg h_3] at hJ); (repeat rw [if_neg h_4] at hJ); (repeat rw [if_pos h_5] at hJ); (repeat rw [if_neg h_8] at hJ); (repeat rw [if_neg h_9] at hJ); (repeat rw [if_neg h_10] at hJ); (repeat rw [if_pos h_11] at hJ); (repeat rw [if_neg h_12] at hJ)
                      first | exact hJ ls (lv_sub hl [0, 1] rfl) | ((repeat rw [if_neg h_2] at hl); (repeat rw [if_neg h_3] at hl); (repeat rw [if_neg h_4] at hl); (repeat rw [if_pos h_5] at hl); (repeat rw [if_neg h_8] at hl); (repeat rw [if_neg h_9] at hl); (repeat rw [if_neg h_10] at hl); (repeat rw [if_pos h_11] at hl); (repeat rw [if_neg h_12] at hl); (repeat rw [if_neg h_2]); (repeat rw [if_neg h_3]); (repeat rw [if_neg h_4]); (repeat rw [if_pos h_5]); (repeat rw [if_neg h_8]); (repeat rw [if_neg h_9]); (repeat rw [if_neg h_10]); (repeat rw [if_pos h_11]); (repeat rw [if_neg h_12]); exact hJ ls (lv_sub hl [0, 1] rfl))
                    · exact absurd h_12 h_10
        · refine lv_iload_n hx hb dX6_isUnder_14 rfl (lv_at hl 0 rfl) ?_
          refine lv_iconst (v := 4) hx hb dX6_isUnder_15 (by decide) ?_
          refine lv_icmp_eq (tgt := 51) hx hb dX6_isUnder_16 (by decide) (fun h_13 => ?_) (fun h_13 => ?_)
          · refine lv_iconst (v := 1) hx hb dX6_isUnder_51 (by decide) ?_
            refine lv_goto (tgt := 56) hx hb dX6_isUnder_52 (by decide) ?_
            have hJ := J_1; (repeat rw [if_neg h_2] at hJ); (repeat rw [if_neg h_3] at hJ); (repeat rw [if_pos h_4] at hJ); (repeat rw [if_pos h_13] at hJ)
            first | exact hJ ls (lv_sub hl [0, 1] rfl) | ((repeat rw [if_neg h_2] at hl); (repeat rw [if_neg h_3] at hl); (repeat rw [if_pos h_4] at hl); (repeat rw [if_pos h_13] at hl); (repeat rw [if_neg h_2]); (repeat rw [if_neg h_3]); (repeat rw [if_pos h_4]); (repeat rw [if_pos h_13]); exact hJ ls (lv_sub hl [0, 1] rfl))
          · refine lv_iload_n hx hb dX6_isUnder_19 rfl (lv_at hl 1 rfl) ?_
            refine lv_iconst (v := 2) hx hb dX6_isUnder_20 (by decide) ?_
            refine lv_icmp_ne (tgt := 40) hx hb dX6_isUnder_21 (by decide) (fun h_14 => ?_) (fun h_14 => ?_)
            · refine lv_iload_n hx hb dX6_isUnder_40 rfl (lv_at hl 1 rfl) ?_
              refine lv_iconst (v := 3) hx hb dX6_isUnder_41 (by decide) ?_
              refine lv_icmp_ne (tgt := 55) hx hb dX6_isUnder_42 (by decide) (fun h_15 => ?_) (fun h_15 => ?_)
              · refine lv_iconst (v := 0) hx hb dX6_isUnder_55 (by decide) ?_
                have hJ := J_1; (repeat rw [if_neg h_2] at hJ); (repeat rw [if_neg h_3] at hJ); (repeat rw [if_pos h_4] at hJ); (repeat rw [if_neg h_13] at hJ); (repeat rw [if_neg h_14] at hJ); (repeat rw [if_neg h_15] at hJ)
                first | exact hJ ls (lv_sub hl [0, 1] rfl) | ((repeat rw [if_neg h_2] at hl); (repeat rw [if_neg h_3] at hl); (repeat rw [if_pos h_4] at hl); (repeat rw [if_neg h_13] at hl); (repeat rw [if_neg h_14] at hl); (repeat rw [if_neg h_15] at hl); (repeat rw [if_neg h_2]); (repeat rw [if_neg h_3]); (repeat rw [if_pos h_4]); (repeat rw [if_neg h_13]); (repeat rw [if_neg h_14]); (repeat rw [if_neg h_15]); exact hJ ls (lv_sub hl [0, 1] rfl))
              · refine lv_iload_n hx hb dX6_isUnder_45 rfl (lv_at hl 0 rfl) ?_
                refine lv_bipush (v := 6) hx hb dX6_isUnder_46 (by decide +kernel) ?_
                refine lv_icmp_ne (tgt := 55) hx hb dX6_isUnder_48 (by decide) (fun h_16 => ?_) (fun h_16 => ?_)
                · refine lv_iconst (v := 0) hx hb dX6_isUnder_55 (by decide) ?_
                  have hJ := J_1; (repeat rw [if_neg h_2] at hJ); (repeat rw [if_neg h_3] at hJ); (repeat rw [if_pos h_4] at hJ); (repeat rw [if_neg h_13] at hJ); (repeat rw [if_neg h_14] at hJ); (repeat rw [if_pos h_15] at hJ); (repeat rw [if_neg h_16] at hJ)
                  first | exact hJ ls (lv_sub hl [0, 1] rfl) | ((repeat rw [if_neg h_2] at hl); (repeat rw [if_neg h_3] at hl); (repeat rw [if_pos h_4] at hl); (repeat rw [if_neg h_13] at hl); (repeat rw [if_neg h_14] at hl); (repeat rw [if_pos h_15] at hl); (repeat rw [if_neg h_16] at hl); (repeat rw [if_neg h_2]); (repeat rw [if_neg h_3]); (repeat rw [if_pos h_4]); (repeat rw [if_neg h_13]); (repeat rw [if_neg h_14]); (repeat rw [if_pos h_15]); (repeat rw [if_neg h_16]); exact hJ ls (lv_sub hl [0, 1] rfl))
                · refine lv_iconst (v := 1) hx hb dX6_isUnder_51 (by decide) ?_
                  refine lv_goto (tgt := 56) hx hb dX6_isUnder_52 (by decide) ?_
                  have hJ := J_1; (repeat rw [if_neg h_2] at hJ); (repeat rw [if_neg h_3] at hJ); (repeat rw [if_pos h_4] at hJ); (repeat rw [if_neg h_13] at hJ); (repeat rw [if_neg h_14] at hJ); (repeat rw [if_pos h_15] at hJ); (repeat rw [if_pos h_16] at hJ)
                  first | exact hJ ls (lv_sub hl [0, 1] rfl) | ((repeat rw [if_neg h_2] at hl); (repeat rw [if_neg h_3] at hl); (repeat rw [if_pos h_4] at hl); (repeat rw [if_neg h_13] at hl); (repeat rw [if_neg h_14] at hl); (repeat rw [if_pos h_15] at hl); (repeat rw [if_pos h_16] at hl); (repeat rw [if_neg h_2]); (repeat rw [if_neg h_3]); (repeat rw [if_pos h_4]); (repeat rw [if_neg h_13]); (repeat rw [if_neg h_14]); (repeat rw [if_pos h_15]); (repeat rw [if_pos h_16]); exact hJ ls (lv_sub hl [0, 1] rfl))
            · refine lv_iload_n hx hb dX6_isUnder_24 rfl (lv_at hl 0 rfl) ?_
              refine lv_iconst (v := 3) hx hb dX6_isUnder_25 (by decide) ?_
              refine lv_icmp_eq (tgt := 51) hx hb dX6_isUnder_26 (by decide) (fun h_17 => ?_) (fun h_17 => ?_)
              · refine lv_iconst (v := 1) hx hb dX6_isUnder_51 (by decide) ?_
                refine lv_goto (tgt := 56) hx hb dX6_isUnder_52 (by decide) ?_
                have hJ := J_1; (repeat rw [if_neg h_2] at hJ); (repeat rw [if_neg h_3] at hJ); (repeat rw [if_pos h_4] at hJ); (repeat rw [if_neg h_13] at hJ); (repeat rw [if_pos h_14] at hJ); (repeat rw [if_pos h_17] at hJ)
                first | exact hJ ls (lv_sub hl [0, 1] rfl) | ((repeat rw [if_neg h_2] at hl); (repeat rw [if_neg h_3] at hl); (repeat rw [if_pos h_4] at hl); (repeat rw [if_neg h_13] at hl); (repeat rw [if_pos h_14] at hl); (repeat rw [if_pos h_17] at hl); (repeat rw [if_neg h_2]); (repeat rw [if_neg h_3]); (repeat rw [if_pos h_4]); (repeat rw [if_neg h_13]); (repeat rw [if_pos h_14]); (repeat rw [if_pos h_17]); exact hJ ls (lv_sub hl [0, 1] rfl))
              · refine lv_iload_n hx hb dX6_isUnder_29 rfl (lv_at hl 0 rfl) ?_
                refine lv_iconst (v := 5) hx hb dX6_isUnder_30 (by decide) ?_
                refine lv_icmp_eq (tgt := 51) hx hb dX6_isUnder_31 (by decide) (fun h_18 => ?_) (fun h_18 => ?_)
                · refine lv_iconst (v := 1) hx hb dX6_isUnder_51 (by decide) ?_
                  refine lv_goto (tgt := 56) hx hb dX6_isUnder_52 (by decide) ?_
                  have hJ := J_1; (repeat rw [if_neg h_2] at hJ); (repeat rw [if_neg h_3] at hJ); (repeat rw [if_pos h_4] at hJ); (repeat rw [if_neg h_13] at hJ); (repeat rw [if_pos h_14] at hJ); (repeat rw [if_neg h_17] at hJ); (repeat rw [if_pos h_18] at hJ)
                  first | exact hJ ls (lv_sub hl [0, 1] rfl) | ((repeat rw [if_neg h_2] at hl); (repeat rw [if_neg h_3] at hl); (repeat rw [if_pos h_4] at hl); (repeat rw [if_neg h_13] at hl); (repeat rw [if_pos h_14] at hl); (repeat rw [if_neg h_17] at hl); (repeat rw [if_pos h_18] at hl); (repeat rw [if_neg h_2]); (repeat rw [if_neg h_3]); (repeat rw [if_pos h_4]); (repeat rw [if_neg h_13]); (repeat rw [if_pos h_14]); (repeat rw [if_neg h_17]); (repeat rw [if_pos h_18]); exact hJ ls (lv_sub hl [0, 1] rfl))
                · refine lv_iload_n hx hb dX6_isUnder_34 rfl (lv_at hl 0 rfl) ?_
                  refine lv_bipush (v := 6) hx hb dX6_isUnder_35 (by decide +kernel) ?_
                  refine lv_icmp_eq (tgt := 51) hx hb dX6_isUnder_37 (by decide) (fun h_19 => ?_) (fun h_19 => ?_)
                  · refine lv_iconst (v := 1) hx hb dX6_isUnder_51 (by decide) ?_
                    refine lv_goto (tgt := 56) hx hb dX6_isUnder_52 (by decide) ?_
                    have hJ := J_1; (repeat rw [if_neg h_2] at hJ); (repeat rw [if_neg h_3] at hJ); (repeat rw [if_pos h_4] at hJ); (repeat rw [if_neg h_13] at hJ); (repeat rw [if_pos h_14] at hJ); (repeat rw [if_neg h_17] at hJ); (repeat rw [if_neg h_18] at hJ); (repeat rw [if_pos h_19] at hJ)
                    first | exact hJ ls (lv_sub hl [0, 1] rfl) | ((repeat rw [if_neg h_2] at hl); (repeat rw [if_neg h_3] at hl); (repeat rw [if_pos h_4] at hl); (repeat rw [if_neg h_13] at hl); (repeat rw [if_pos h_14] at hl); (repeat rw [if_neg h_17] at hl); (repeat rw [if_neg h_18] at hl); (repeat rw [if_pos h_19] at hl); (repeat rw [if_neg h_2]); (repeat rw [if_neg h_3]); (repeat rw [if_pos h_4]); (repeat rw [if_neg h_13]); (repeat rw [if_pos h_14]); (repeat rw [if_neg h_17]); (repeat rw [if_neg h_18]); (repeat rw [if_pos h_19]); exact hJ ls (lv_sub hl [0, 1] rfl))
                  · refine lv_iload_n hx hb dX6_isUnder_40 rfl (lv_at hl 1 rfl) ?_
                    refine lv_iconst (v := 3) hx hb dX6_isUnder_41 (by decide) ?_
                    refine lv_icmp_ne (tgt := 55) hx hb dX6_isUnder_42 (by decide) (fun h_20 => ?_) (fun h_20 => ?_)
                    · refine lv_iconst (v := 0) hx hb dX6_isUnder_55 (by decide) ?_
                      have hJ := J_1; (repeat rw [if_neg h_2] at hJ); (repeat rw [if_neg h_3] at hJ); (repeat rw [if_pos h_4] at hJ); (repeat rw [if_neg h_13] at hJ); (repeat rw [if_pos h_14] at hJ); (repeat rw [if_neg h_17] at hJ); (repeat rw [if_neg h_18] at hJ); (repeat rw [if_neg h_19] at hJ); (repeat rw [if_neg h_20] at hJ)
                      first | exact hJ ls (lv_sub hl [0, 1] rfl) | ((repeat rw [if_neg h_2] at hl); (repeat rw [if_neg h_3] at hl); (repeat rw [if_pos h_4] at hl); (repeat rw [if_neg h_13] at hl); (repeat rw [if_pos h_14] at hl); (repeat rw [if_neg h_17] at hl); (repeat rw [if_neg h_18] at hl); (repeat rw [if_neg h_19] at hl); (repeat rw [if_neg h_20] at hl); (repeat rw [if_neg h_2]); (repeat rw [if_neg h_3]); (repeat rw [if_pos h_4]); (repeat rw [if_neg h_13]); (repeat rw [if_pos h_14]); (repeat rw [if_neg h_17]); (repeat rw [if_neg h_18]); (repeat rw [if_neg h_19]); (repeat rw [if_neg h_20]); exact hJ ls (lv_sub hl [0, 1] rfl))
                    · refine lv_iload_n hx hb dX6_isUnder_45 rfl (lv_at hl 0 rfl) ?_
                      refine lv_bipush (v := 6) hx hb dX6_isUnder_46 (by decide +kernel) ?_
                      refine lv_icmp_ne (tgt := 55) hx hb dX6_isUnder_48 (by decide) (fun h_21 => ?_) (fun h_21 => ?_)
                      · refine lv_iconst (v := 0) hx hb dX6_isUnder_55 (by decide) ?_
                        have hJ := J_1; (repeat rw [if_neg h_2] at hJ); (repeat rw [if_neg h_3] at hJ); (repeat rw [if_pos h_4] at hJ); (repeat rw [if_neg h_13] at hJ); (repeat rw [if_pos h_14] at hJ); (repeat rw [if_neg h_17] at hJ); (repeat rw [if_neg h_18] at hJ); (repeat rw [if_neg h_19] at hJ); (repeat rw [if_pos h_20] at hJ); (repeat rw [if_neg h_21] at hJ)
                        first | exact hJ ls (lv_sub hl [0, 1] rfl) | ((repeat rw [if_neg h_2] at hl); (repeat rw [if_neg h_3] at hl); (repeat rw [if_pos h_4] at hl); (repeat rw [if_neg h_13] at hl); (repeat rw [if_pos h_14] at hl); (repeat rw [if_neg h_17] at hl); (repeat rw [if_neg h_18] at hl); (repeat rw [if_neg h_19] at hl); (repeat rw [if_pos h_20] at hl); (repeat rw [if_neg h_21] at hl); (repeat rw [if_neg h_2]); (repeat rw [if_neg h_3]); (repeat rw [if_pos h_4]); (repeat rw [if_neg h_13]); (repeat rw [if_pos h_14]); (repeat rw [if_neg h_17]); (repeat rw [if_neg h_18]); (repeat rw [if_neg h_19]); (repeat rw [if_pos h_20]); (repeat rw [if_neg h_21]); exact hJ ls (lv_sub hl [0, 1] rfl))
                      · exact absurd h_21 h_19
theorem i_X6_as_X6 : ∀ w ∈ wsX60, w ∈ wsX6_as := fun _ h => List.mem_cons_of_mem _ (List.mem_append_right _ h)
theorem k_X6_as_fieldLink_9 : Cond.fieldLink RX6 9 "SameWaterModel" "s" "[I" ∈ wsX6_as := by decide +kernel
theorem kd_X6_isUnder : yX6_isUnder.cls ≠ "java/lang/invoke/MethodHandle" ∧ yX6_isUnder.cls ≠ "java/lang/invoke/VarHandle" ∧ (parseMethodDescriptor yX6_isUnder.desc).map (fun d => d.parameters.length) = some 2 := by decide +kernel
def r_as (x : MT) (law : Int32) (kk : Int32) : Int32 := if (r_isLaw x law) = true then if (r_in kk 0 6) = true then if (r_isUnder ((mS x) (482 + law).toNatClampNeg) kk) = true then (mS x) (490 + law).toNatClampNeg else (-6) else (-1) else (-1)
set_option maxHeartbeats 4000000 in
set_option maxRecDepth 100000 in
theorem c_X6_as (l : Launch) (G : GG) (M : Nat → Nat) (x : MT) (law : Int32) (kk : Int32)  (hI : mI (mS x)) (hO : mO (mS x)) : Met l yX6_as wsX6_as { frames := 2, cells := 0, slots := 0, locals := 43 } (roP G [.ref (M 0), .int law, .int kk] (fun H => MAt G M x H)) (roQ (some (.int (r_as x law kk)))) 0 0 nF := by
  refine Met.ofW (cc := cX6_as) (maxL := 3) (ret := (some .int)) (by decide) rfl ?_
  intro p e s m args below meth c s₁ Bd hml hv
  obtain ⟨rfl, hK, hB⟩ := hv
  have hx := Bd.exec
  have hb := Bd.bytes
  have hr := Bd.returns
  have hts := atoms_spec (ws := wsX6_as) Bd.pre
  have hown : s.vm.findClass RX6 = some m.cls := findClass_of_methodNamed Bd.named
  have hlocks := Bd.notSynchronized
  have hC : CallFix p m c cX6_as 3 s _ wsX6_as RX6 := ⟨hx, hb, hml, hown, hts⟩
  have hl := lv_entry ([.ref (M 0), .int law, .int kk]) (n := 3) (Nat.le_of_ble_eq_true rfl)
  rw [lg_entry_eq]
  generalize (lg_sl ([.ref (M 0), .int law, .int kk]) ++ List.replicate (3 - (lg_sl ([.ref (M 0), .int law, .int kk])).length) Slot.unset).toArray = ls at hl ⊢
  have hl : lv_has ls 3 [(0, .ref (M 0)), (1, .int law), (2, .int kk)] := hl
  refine lv_aload_n hx hb dX6_as_0 rfl (lv_at hl 0 rfl) ?_
  refine lv_iload_n hx hb dX6_as_1 rfl (lv_at hl 1 rfl) ?_
  refine ro_call (va_runV (As := [.int law]) (rest := []) hC (c_X6_isLaw l G M x law) (cwV 1 hts gX6_as_X6_isLaw rfl rfl rfl kd_X6_isLaw ⟨Nat.le_of_ble_eq_true rfl, Nat.le_of_ble_eq_true rfl⟩) (ro_preV hK hB.1 rfl hB) rfl rfl hl.1 rfl (lv_room (Nat.le_of_ble_eq_true rfl)) dX6_as_2 ⟨Nat.zero_le _, Nat.zero_le _⟩) ?_
  refine bz_eq (tgt := 18) hx hb dX6_as_5 (by decide) (fun h_1 => ?_) (fun h_1 => ?_)
  · refine lv_iconst (v := (-1)) hx hb dX6_as_18 (by decide) ?_
    exact ro_iret hx hb hr hlocks dX6_as_19 (by (try unfold r_as); (repeat rw [if_neg h_1]); first | done | rfl)
  · refine lv_iload_n hx hb dX6_as_8 rfl (lv_at hl 2 rfl) ?_
    refine lv_iconst (v := 0) hx hb dX6_as_9 (by decide) ?_
    refine lv_bipush (v := 6) hx hb dX6_as_10 (by decide +kernel) ?_
    refine ro_call (va_runS (As := [.int kk, .int 0, .int 6]) (rest := []) hC (c_X6_in l G kk 0 6) (va_cwS 3 hts gX6_as_X6_in rfl rfl rfl kd_X6_in ⟨Nat.le_of_ble_eq_true rfl, Nat.le_of_ble_eq_true rfl⟩) (ro_preS hK trivial) rfl rfl hl.1 rfl (lv_room (Nat.le_of_ble_eq_true rfl)) dX6_as_12 ⟨Nat.zero_le _, Nat.zero_le _⟩) ?_
    refine bz_ne (tgt := 20) hx hb dX6_as_15 (by decide) (fun h_2 => ?_) (fun h_2 => ?_)
    · refine lv_aload_n hx hb dX6_as_20 rfl (lv_at hl 0 rfl) ?_
      refine r_get (C := RX6) (T := TX6) (N := 18) hx hb hts i_X6_as_X6 hown hK hB.1 rfl 1 (by decide) k_X6_as_fieldLink_9 rfl rfl dX6_as_21 ?_
      refine lv_sipush (v := 482) hx hb dX6_as_24 (by decide +kernel) ?_
      refine lv_iload_n hx hb dX6_as_27 rfl (lv_at hl 1 rfl) ?_
      refine lv_iadd hx hb dX6_as_28 ?_
      refine r_iald hx hb hK hB.2.1 (vp_ib (lo := 482) (hi := 489) (ib_add (ib_nI (n := 482) (by decide)) (isLaw_ib hI h_1) (by decide) (by decide)) (by decide) (by decide)) dX6_as_29 ?_
      refine lv_iload_n hx hb dX6_as_30 rfl (lv_at hl 2 rfl) ?_
      refine ro_call (va_runS (As := [.int ((mS x) (482 + law).toNatClampNeg), .int kk]) (rest := []) hC (c_X6_isUnder l G ((mS x) (482 + law).toNatClampNeg) kk) (va_cwS 2 hts gX6_as_X6_isUnder rfl rfl rfl kd_X6_isUnder ⟨Nat.le_of_ble_eq_true rfl, Nat.le_of_ble_eq_true rfl⟩) (ro_preS hK trivial) rfl rfl hl.1 rfl (lv_room (Nat.le_of_ble_eq_true rfl)) dX6_as_31 ⟨Nat.zero_le _, Nat.zero_le _⟩) ?_
      refine join_at (nL := 3) 52 [(0, .ref (M 0)), (1, .int law), (2, .int kk)] [.int (if (r_isUnder ((mS x) (482 + law).toNatClampNeg) kk) = true then (mS x) (490 + law).toNatClampNeg else (-6))] (fun ls hl => ?_) (fun J_3 => ?_)
      · exact ro_iret hx hb hr hlocks dX6_as_52 (by (try unfold r_as); (repeat rw [if_pos h_1]); (repeat rw [if_pos h_2]); first | done | rfl)
      · refine bz_eq (tgt := 50) hx hb dX6_as_34 (by decide) (fun h_4 => ?_) (fun h_4 => ?_)
        · refine lv_bipush (v := (-6)) hx hb dX6_as_50 (by decide +kernel) ?_
          have hJ := J_3; (repeat rw [if_neg h_4] at hJ)
          first | exact hJ ls (lv_sub hl [0, 1, 2] rfl) | ((repeat rw [if_neg h_4] at hl); (repeat rw [if_neg h_4]); exact hJ ls (lv_sub hl [0, 1, 2] rfl))
        · refine lv_aload_n hx hb dX6_as_37 rfl (lv_at hl 0 rfl) ?_
          refine r_get (C := RX6) (T := TX6) (N := 18) hx hb hts i_X6_as_X6 hown hK hB.1 rfl 1 (by decide) k_X6_as_fieldLink_9 rfl rfl dX6_as_38 ?_
          refine lv_sipush (v := 490) hx hb dX6_as_41 (by decide +kernel) ?_
          refine lv_iload_n hx hb dX6_as_44 rfl (lv_at hl 1 rfl) ?_
          refine lv_iadd hx hb dX6_as_45 ?_
          refine r_iald hx hb hK hB.2.1 (vp_ib (lo := 490) (hi := 497) (ib_add (ib_nI (n := 490) (by decide)) (isLaw_ib hI h_1) (by decide) (by decide)) (by decide) (by decide)) dX6_as_46 ?_
          refine lv_goto (tgt := 52) hx hb dX6_as_47 (by decide) ?_
          have hJ := J_3; (repeat rw [if_pos h_4] at hJ)
          first | exact hJ ls (lv_sub hl [0, 1, 2] rfl) | ((repeat rw [if_pos h_4] at hl); (repeat rw [if_pos h_4]); exact hJ ls (lv_sub hl [0, 1, 2] rfl))
    · refine lv_iconst (v := (-1)) hx hb dX6_as_18 (by decide) ?_
      exact ro_iret hx hb hr hlocks dX6_as_19 (by (try unfold r_as); (repeat rw [if_pos h_1]); (repeat rw [if_neg h_2]); first | done | rfl)
theorem trace_in {i r : Int32} {m : Int} (hr : ib 0 m r) (hm : m < 2 ^ 31) (h : r_in i 0 ((if 20 ≤ r then 20 else r) - 1) = true) : vp_in i 20 := by
  have h1 := in_le h
  have h0 : ib 0 20 (if 20 ≤ r then 20 else r) := by
    split
    · exact ⟨by decide, by decide⟩
    · rename_i q
      have : r.toInt < 20 := by simpa using Int32.lt_iff_toInt_lt.mp (Int32.not_le.mp q)
      exact ⟨hr.1, by omega⟩
  have h2 := ib_sub h0 (ib_nI (n := 1) (by decide)) (by decide) (by decide)
  have e0 : (0 : Int32).toInt = 0 := rfl
  exact vp_ib (lo := 0) (hi := 19) ⟨by omega, Int.le_trans h1.2 h2.2⟩ (by decide) (by decide)
theorem i_X6_trace_X6 : ∀ w ∈ wsX60, w ∈ wsX6_trace := fun _ h => List.mem_cons_of_mem _ (List.mem_append_right _ h)
theorem k_X6_trace_fieldLink_221 : Cond.fieldLink RX6 221 "SameWaterModel" "ran" "I" ∈ wsX6_trace := by decide +kernel
theorem k_X6_trace_fieldLink_25 : Cond.fieldLink RX6 25 "SameWaterModel" "bodies" "[I" ∈ wsX6_trace := by decide +kernel
def r_trace (x : MT) (i9 : Int32) : Int32 := if (r_in i9 0 ((if 20 ≤ (mRa x) then 20 else mRa x) - 1)) = true then (mBo x) i9.toNatClampNeg else (-1)
set_option maxHeartbeats 4000000 in
set_option maxRecDepth 100000 in
theorem c_X6_trace (l : Launch) (G : GG) (M : Nat → Nat) (x : MT) (i9 : Int32)  (hI : mI (mS x)) (hO : mO (mS x)) (hR : ib 0 1000 (mRa x)) : Met l yX6_trace wsX6_trace { frames := 1, cells := 0, slots := 0, locals := 22 } (roP G [.ref (M 0), .int i9] (fun H => MAt G M x H)) (roQ (some (.int (r_trace x i9)))) 0 0 nF := by
  refine Met.ofW (cc := cX6_trace) (maxL := 2) (ret := (some .int)) (by decide) rfl ?_
  intro p e s m args below meth c s₁ Bd hml hv
  obtain ⟨rfl, hK, hB⟩ := hv
  have hx := Bd.exec
  have hb := Bd.bytes
  have hr := Bd.returns
  have hts := atoms_spec (ws := wsX6_trace) Bd.pre
  have hown : s.vm.findClass RX6 = some m.cls := findClass_of_methodNamed Bd.named
  have hlocks := Bd.notSynchronized
  have hC : CallFix p m c cX6_trace 2 s _ wsX6_trace RX6 := ⟨hx, hb, hml, hown, hts⟩
  have hl := lv_entry ([.ref (M 0), .int i9]) (n := 2) (Nat.le_of_ble_eq_true rfl)
  rw [lg_entry_eq]
  generalize (lg_sl ([.ref (M 0), .int i9]) ++ List.replicate (2 - (lg_sl ([.ref (M 0), .int i9])).length) Slot.unset).toArray = ls at hl ⊢
  have hl : lv_has ls 2 [(0, .ref (M 0)), (1, .int i9)] := hl
  refine lv_iload_n hx hb dX6_trace_0 rfl (lv_at hl 1 rfl) ?_
  refine lv_iconst (v := 0) hx hb dX6_trace_1 (by decide) ?_
  refine lv_aload_n hx hb dX6_trace_2 rfl (lv_at hl 0 rfl) ?_
  refine r_get (C := RX6) (T := TX6) (N := 18) hx hb hts i_X6_trace_X6 hown hK hB.1 rfl 14 (by decide) k_X6_trace_fieldLink_221 rfl rfl dX6_trace_3 ?_
  refine lv_bipush (v := 20) hx hb dX6_trace_6 (by decide +kernel) ?_
  refine join_at (nL := 2) 20 [(0, .ref (M 0)), (1, .int i9)] [.int (if 20 ≤ (mRa x) then 20 else mRa x), .int 0, .int i9] (fun ls hl => ?_) (fun J_1 => ?_)
  · refine lv_iconst (v := 1) hx hb dX6_trace_20 (by decide) ?_
    refine lv_isub hx hb dX6_trace_21 ?_
    refine ro_call (va_runS (As := [.int i9, .int 0, .int ((if 20 ≤ (mRa x) then 20 else mRa x) - 1)]) (rest := []) hC (c_X6_in l G i9 0 ((if 20 ≤ (mRa x) then 20 else mRa x) - 1)) (va_cwS 3 hts gX6_trace_X6_in rfl rfl rfl kd_X6_in ⟨Nat.le_of_ble_eq_true rfl, Nat.le_of_ble_eq_true rfl⟩) (ro_preS hK trivial) rfl rfl hl.1 rfl (lv_room (Nat.le_of_ble_eq_true rfl)) dX6_trace_22 ⟨Nat.zero_le _, Nat.zero_le _⟩) ?_
    refine join_at (nL := 2) 38 [(0, .ref (M 0)), (1, .int i9)] [.int (if (r_in i9 0 ((if 20 ≤ (mRa x) then 20 else mRa x) - 1)) = true then (mBo x) i9.toNatClampNeg else (-1))] (fun ls hl => ?_) (fun J_2 => ?_)
    · exact ro_iret hx hb hr hlocks dX6_trace_38 rfl
    · refine bz_eq (tgt := 37) hx hb dX6_trace_25 (by decide) (fun h_3 => ?_) (fun h_3 => ?_)
      · refine lv_iconst (v := (-1)) hx hb dX6_trace_37 (by decide) ?_
        have hJ := J_2; (repeat rw [if_neg h_3] at hJ)
        first | exact hJ ls (lv_sub hl [0, 1] rfl) | ((repeat rw [if_neg h_3] at hl); (repeat rw [if_neg h_3]); exact hJ ls (lv_sub hl [0, 1] rfl))
      · refine lv_aload_n hx hb dX6_trace_28 rfl (lv_at hl 0 rfl) ?_
        refine r_get (C := RX6) (T := TX6) (N := 18) hx hb hts i_X6_trace_X6 hown hK hB.1 rfl 13 (by decide) k_X6_trace_fieldLink_25 rfl rfl dX6_trace_29 ?_
        refine lv_iload_n hx hb dX6_trace_32 rfl (lv_at hl 1 rfl) ?_
        refine r_iald hx hb hK hB.2.2.2.2.2 (trace_in hR (by decide) h_3) dX6_trace_33 ?_
        refine lv_goto (tgt := 38) hx hb dX6_trace_34 (by decide) ?_
        have hJ := J_2; (repeat rw [if_pos h_3] at hJ)
        first | exact hJ ls (lv_sub hl [0, 1] rfl) | ((repeat rw [if_pos h_3] at hl); (repeat rw [if_pos h_3]); exact hJ ls (lv_sub hl [0, 1] rfl))
  · refine lv_icmp_ge (tgt := 18) hx hb dX6_trace_8 (by decide) (fun h_4 => ?_) (fun h_4 => ?_)
    · refine lv_bipush (v := 20) hx hb dX6_trace_18 (by decide +kernel) ?_
      have hJ := J_1; (repeat rw [if_pos h_4] at hJ)
      first | exact hJ ls (lv_sub hl [0, 1] rfl) | ((repeat rw [if_pos h_4] at hl); (repeat rw [if_pos h_4]); exact hJ ls (lv_sub hl [0, 1] rfl))
    · refine lv_aload_n hx hb dX6_trace_11 rfl (lv_at hl 0 rfl) ?_
      refine r_get (C := RX6) (T := TX6) (N := 18) hx hb hts i_X6_trace_X6 hown hK hB.1 rfl 14 (by decide) k_X6_trace_fieldLink_221 rfl rfl dX6_trace_12 ?_
      refine lv_goto (tgt := 20) hx hb dX6_trace_15 (by decide) ?_
      have hJ := J_1; (repeat rw [if_neg h_4] at hJ)
      first | exact hJ ls (lv_sub hl [0, 1] rfl) | ((repeat rw [if_neg h_4] at hl); (repeat rw [if_neg h_4]); exact hJ ls (lv_sub hl [0, 1] rfl))

def m05 (M : Nat → Nat) : Nat → Prop := fun q => q = M 0 ∨ q = M 5
/-- the reference while it acts: its kind, number, tells, ran and bodies by themselves -/
def AAt (G : GG) (M : Nat → Nat) (x : MT) (ki nu tv ra : Int32) (bo : Nat → Int32) (H : Heap) : Prop := oA G (M 0) 6 [.int (mTh x), .ref (M 1), .ref (M 2), .int (b2i (mHi x)), .int (mAc x), .int (mSp x), .int (mEn x), .int (b2i (mWr x)), .int (mOp x), .ref (M 3), .ref (M 4), .long (mAl x), .long (mSa x), .ref (M 5), .int ra, .int ki, .int nu, .int tv] H ∧ iA G 1 (M 1) 1920 (mS x) H ∧ iA G 1 (M 2) 1920 (mIm x) H ∧ (∃ f : Nat → Int32, iA G 2 (M 3) 64 f H) ∧ (∃ f : Nat → Int32, iA G 1 (M 4) 3 f H) ∧ iA G 1 (M 5) 20 bo H
theorem AAt.rest {G : GG} {M : Nat → Nat} {x : MT} {ki nu tv ra ki2 nu2 tv2 ra2 : Int32} {bo : Nat → Int32} {H H1 : Heap} (h : AAt G M x ki nu tv ra bo H) (hN : mN M) (hn : oA G (M 0) 6 [.int (mTh x), .ref (M 1), .ref (M 2), .int (b2i (mHi x)), .int (mAc x), .int (mSp x), .int (mEn x), .int (b2i (mWr x)), .int (mOp x), .ref (M 3), .ref (M 4), .long (mAl x), .long (mSa x), .ref (M 5), .int ra2, .int ki2, .int nu2, .int tv2] H1) (hq : ∀ q : Nat, q ≠ M 0 → H1[q]? = H[q]?) : AAt G M x ki2 nu2 tv2 ra2 bo H1 := by
  obtain ⟨h0, h1, h2, ⟨g3, h3⟩, ⟨g4, h4⟩, h5⟩ := h
  have k : ∀ j, j < 6 → j ≠ 0 → H1[M j]? = H[M j]? := fun j a b => hq _ (hN j 0 a (by decide) b)
  exact ⟨hn, h1.kept (k 1 (by decide) (by decide)), h2.kept (k 2 (by decide) (by decide)), ⟨g3, h3.kept (k 3 (by decide) (by decide))⟩, ⟨g4, h4.kept (k 4 (by decide) (by decide))⟩, h5.kept (k 5 (by decide) (by decide))⟩
theorem AAt.bo {G : GG} {M : Nat → Nat} {x : MT} {ki nu tv ra : Int32} {bo f : Nat → Int32} {H H1 : Heap} (h : AAt G M x ki nu tv ra bo H) (hN : mN M) (hn : iA G 1 (M 5) 20 f H1) (hq : ∀ q : Nat, q ≠ M 5 → H1[q]? = H[q]?) : AAt G M x ki nu tv ra f H1 := by
  obtain ⟨h0, h1, h2, ⟨g3, h3⟩, ⟨g4, h4⟩, h5⟩ := h
  have k : ∀ j, j < 6 → j ≠ 5 → H1[M j]? = H[M j]? := fun j a b => hq _ (hN j 5 a (by decide) b)
  exact ⟨h0.kept (k 0 (by decide) (by decide)), h1.kept (k 1 (by decide) (by decide)), h2.kept (k 2 (by decide) (by decide)), ⟨g3, h3.kept (k 3 (by decide) (by decide))⟩, ⟨g4, h4.kept (k 4 (by decide) (by decide))⟩, hn⟩
abbrev mAct (x : MT) (ki nu tv ra : Int32) (bo : Nat → Int32) : MT := mSetRa (mSetBo (mSetTv (mSetNu (mSetKi x ki) nu) tv) bo) ra
theorem AAt.to {G : GG} {M : Nat → Nat} {x : MT} {ki nu tv ra : Int32} {bo : Nat → Int32} {H : Heap} (h : AAt G M x ki nu tv ra bo H) : MAt G M (mAct x ki nu tv ra bo) H := h
theorem vp_ran9 {r : Nat} (h : r ≤ 100) (h2 : ¬ 20 ≤ nI r) : vp_in (nI r) 20 := vp_of (n := 20) rfl (nI_pos (by omega)) h2 (by decide)
theorem i_X6_runs_X6 : ∀ w ∈ wsX60, w ∈ wsX6_runs := fun _ h => List.mem_cons_of_mem _ (List.mem_append_right _ h)
theorem k_X6_runs_fieldLink_221 : Cond.fieldLink RX6 221 "SameWaterModel" "ran" "I" ∈ wsX6_runs := by decide +kernel
theorem k_X6_runs_fieldLink_25 : Cond.fieldLink RX6 25 "SameWaterModel" "bodies" "[I" ∈ wsX6_runs := by decide +kernel
def r_runs (ki nu tv : Int32) (body : Int32) (ra : Nat) (bo : Nat → Int32) : Nat × (Nat → Int32) := if 20 ≤ (nI ra) then (ra + 1, bo) else (ra + 1, upd bo (nI ra).toNatClampNeg body)
set_option maxHeartbeats 300000 in
set_option maxRecDepth 100000 in
theorem c_X6_runs (l : Launch) (G : GG) (M : Nat → Nat) (x : MT) (ki nu tv : Int32) (body : Int32) (ra : Nat) (bo : Nat → Int32)  (hN : mN M) (hra : ra + 1 ≤ 100) : Met l yX6_runs wsX6_runs { frames := 0, cells := 0, slots := 0, locals := 0 } (roP G [.ref (M 0), .int body] (fun H => AAt G M x ki nu tv (nI ra) bo H)) (wrQ none (fun H => AAt G M x ki nu tv (nI ((r_runs ki nu tv body ra bo).1)) ((r_runs ki nu tv body ra bo).2) H) (m05 M)) 0 0 (m05 M) := by
  refine Met.ofW (cc := cX6_runs) (maxL := 2) (ret := none) (by decide) rfl ?_
  intro p e s m args below meth c s₁ Bd hml hv
  obtain ⟨rfl, hK, hB⟩ := hv
  have hx := Bd.exec
  have hb := Bd.bytes
  have hr := Bd.returns
  have hts := atoms_spec (ws := wsX6_runs) Bd.pre
  have hown : s.vm.findClass RX6 = some m.cls := findClass_of_methodNamed Bd.named
  have hlocks := Bd.notSynchronized
  have hC : CallFix p m c cX6_runs 2 s _ wsX6_runs RX6 := ⟨hx, hb, hml, hown, hts⟩
  have hl := lv_entry ([.ref (M 0), .int body]) (n := 2) (Nat.le_of_ble_eq_true rfl)
  rw [lg_entry_eq]
  generalize (lg_sl ([.ref (M 0), .int body]) ++ List.replicate (2 - (lg_sl ([.ref (M 0), .int body])).length) Slot.unset).toArray = ls at hl ⊢
  have hl : lv_has ls 2 [(0, .ref (M 0)), (1, .int body)] := hl
  have hS : wS (m05 M) s.heap s.heap [] := wS.rf
  have f_s := hB
  have hZ := trivial
  refine lv_aload_n hx hb dX6_runs_0 rfl (lv_at hl 0 rfl) ?_
  refine r_get (C := RX6) (T := TX6) (N := 18) hx hb hts i_X6_runs_X6 hown hK f_s.1 rfl 14 (by decide) k_X6_runs_fieldLink_221 rfl rfl dX6_runs_1 ?_
  refine lv_bipush (v := 20) hx hb dX6_runs_4 (by decide +kernel) ?_
  refine lv_icmp_ge (tgt := 19) hx hb dX6_runs_6 (by decide) (fun h_1 => ?_) (fun h_1 => ?_)
  · have h_1 : 20 ≤ (nI ra) := h_1
    refine lv_aload_n hx hb dX6_runs_19 rfl (lv_at hl 0 rfl) ?_
    refine lv_dup hx hb dX6_runs_20 rfl ?_
    refine r_get (C := RX6) (T := TX6) (N := 18) hx hb hts i_X6_runs_X6 hown hK f_s.1 rfl 14 (by decide) k_X6_runs_fieldLink_221 rfl rfl dX6_runs_21 ?_
    refine lv_iconst (v := 1) hx hb dX6_runs_24 (by decide) ?_
    refine lv_iadd hx hb dX6_runs_25 ?_
    refine w_put (C := RX6) (T := TX6) (N := 18) hx hb hts i_X6_runs_X6 tyX6 tyX6_ok nmX6 hown hK f_s.1 hS (.inl rfl) rfl 14 (by decide) k_X6_runs_fieldLink_221 rfl rfl rfl rfl (Nat.le_of_ble_eq_true rfl) dX6_runs_26 (fun H locs hn hq hS => ?_)
    rw [← nI_succ] at hn
    have f_s : AAt G M x ki nu tv (nI (ra + 1)) bo H := f_s.rest hN hn hq
    have hE9 : r_runs ki nu tv body ra bo = (ra + 1, bo) := (by (try unfold r_runs); (repeat rw [if_pos h_1]); first | done | rfl)
    exact wr_vret hx hb hr hlocks dX6_runs_29 hS (by rw [hE9]; exact f_s)
  · have h_1 : ¬ (20 ≤ (nI ra)) := h_1
    refine lv_aload_n hx hb dX6_runs_9 rfl (lv_at hl 0 rfl) ?_
    refine r_get (C := RX6) (T := TX6) (N := 18) hx hb hts i_X6_runs_X6 hown hK f_s.1 rfl 13 (by decide) k_X6_runs_fieldLink_25 rfl rfl dX6_runs_10 ?_
    refine lv_aload_n hx hb dX6_runs_13 rfl (lv_at hl 0 rfl) ?_
    refine r_get (C := RX6) (T := TX6) (N := 18) hx hb hts i_X6_runs_X6 hown hK f_s.1 rfl 14 (by decide) k_X6_runs_fieldLink_221 rfl rfl dX6_runs_14 ?_
    refine lv_iload_n hx hb dX6_runs_17 rfl (lv_at hl 1 rfl) ?_
    refine w_iast hx hb hK f_s.2.2.2.2.2 hS (.inr rfl) (vp_ran9 (by omega) h_1) dX6_runs_18 (fun H locs hn hq hS => ?_)
    have f_s : AAt G M x ki nu tv (nI ra) (upd bo (nI ra).toNatClampNeg body) H := f_s.bo hN hn hq
    refine lv_aload_n hx hb dX6_runs_19 rfl (lv_at hl 0 rfl) ?_
    refine lv_dup hx hb dX6_runs_20 rfl ?_
    refine r_get (C := RX6) (T := TX6) (N := 18) hx hb hts i_X6_runs_X6 hown hK f_s.1 rfl 14 (by decide) k_X6_runs_fieldLink_221 rfl rfl dX6_runs_21 ?_
    refine lv_iconst (v := 1) hx hb dX6_runs_24 (by decide) ?_
    refine lv_iadd hx hb dX6_runs_25 ?_
    refine w_put (C := RX6) (T := TX6) (N := 18) hx hb hts i_X6_runs_X6 tyX6 tyX6_ok nmX6 hown hK f_s.1 hS (.inl rfl) rfl 14 (by decide) k_X6_runs_fieldLink_221 rfl rfl rfl rfl (Nat.le_of_ble_eq_true rfl) dX6_runs_26 (fun H locs hn hq hS => ?_)
    rw [← nI_succ] at hn
    have f_s : AAt G M x ki nu tv (nI (ra + 1)) (upd bo (nI ra).toNatClampNeg body) H := f_s.rest hN hn hq
    have hE9 : r_runs ki nu tv body ra bo = (ra + 1, upd bo (nI ra).toNatClampNeg body) := (by (try unfold r_runs); (repeat rw [if_neg h_1]); first | done | rfl)
    exact wr_vret hx hb hr hlocks dX6_runs_29 hS (by rw [hE9]; exact f_s)
theorem c2_X6_runs (l : Launch) (G : GG) (M : Nat → Nat) (x : MT) (ki nu tv : Int32) (body : Int32) (ra : Nat) (bo : Nat → Int32)  (hN : mN M) (hra : ra + 1 ≤ 100) (ra9 : Nat) (bo9 : Nat → Int32) (hy9 : r_runs ki nu tv body ra bo = (ra9, bo9)) : Met l yX6_runs wsX6_runs { frames := 0, cells := 0, slots := 0, locals := 0 } (roP G [.ref (M 0), .int body] (fun H => AAt G M x ki nu tv (nI ra) bo H)) (wrQ none (fun H => AAt G M x ki nu tv (nI ra9) bo9 H) (m05 M)) 0 0 (m05 M) := by
  have h9 := c_X6_runs l G M x ki nu tv body ra bo hN hra
  rw [hy9] at h9
  exact h9
theorem leE_runs {ki nu tv b : Int32} {ra r : Nat} {bo f : Nat → Int32} (h : r_runs ki nu tv b ra bo = (r, f)) : r ≤ ra + 1 := by
  unfold r_runs at h
  split at h <;> (cases h; exact Nat.le_refl _)
theorem i_X6_plainRules_X6 : ∀ w ∈ wsX60, w ∈ wsX6_plainRules := fun _ h => List.mem_cons_of_mem _ (List.mem_append_right _ h)
theorem k_X6_plainRules_fieldLink_227 : Cond.fieldLink RX6 227 "SameWaterModel" "number" "I" ∈ wsX6_plainRules := by decide +kernel
theorem kd_X6_runs : yX6_runs.cls = RX6 ∧ yX6_runs.cls ≠ "java/lang/invoke/MethodHandle" ∧ yX6_runs.cls ≠ "java/lang/invoke/VarHandle" ∧ (parseMethodDescriptor yX6_runs.desc).map (fun d => d.parameters.length) = some 1 := by decide +kernel
def r_plainRules (ki nu tv : Int32) (xx : Int32) (ra : Nat) (bo : Nat → Int32) : Int32 × Nat × (Nat → Int32) := (match r_runs ki nu tv 1 ra bo with | (r_0, b_0) => (xx + nu, r_0, b_0))
set_option maxHeartbeats 300000 in
set_option maxRecDepth 100000 in
theorem c_X6_plainRules (l : Launch) (G : GG) (M : Nat → Nat) (x : MT) (ki nu tv : Int32) (xx : Int32) (ra : Nat) (bo : Nat → Int32)  (hN : mN M) (hra : ra + 1 ≤ 100) : Met l yX6_plainRules wsX6_plainRules { frames := 1, cells := 0, slots := 0, locals := 21 } (roP G [.ref (M 0), .int xx] (fun H => AAt G M x ki nu tv (nI ra) bo H)) (wrQ (some (.int ((r_plainRules ki nu tv xx ra bo).1))) (fun H => AAt G M x ki nu tv (nI ((r_plainRules ki nu tv xx ra bo).2.1)) ((r_plainRules ki nu tv xx ra bo).2.2) H) (m05 M)) 0 0 (m05 M) := by
  refine Met.ofW (cc := cX6_plainRules) (maxL := 2) (ret := (some .int)) (by decide) rfl ?_
  intro p e s m args below meth c s₁ Bd hml hv
  obtain ⟨rfl, hK, hB⟩ := hv
  have hx := Bd.exec
  have hb := Bd.bytes
  have hr := Bd.returns
  have hts := atoms_spec (ws := wsX6_plainRules) Bd.pre
  have hown : s.vm.findClass RX6 = some m.cls := findClass_of_methodNamed Bd.named
  have hlocks := Bd.notSynchronized
  have hC : CallFix p m c cX6_plainRules 2 s _ wsX6_plainRules RX6 := ⟨hx, hb, hml, hown, hts⟩
  have hl := lv_entry ([.ref (M 0), .int xx]) (n := 2) (Nat.le_of_ble_eq_true rfl)
  rw [lg_entry_eq]
  generalize (lg_sl ([.ref (M 0), .int xx]) ++ List.replicate (2 - (lg_sl ([.ref (M 0), .int xx])).length) Slot.unset).toArray = ls at hl ⊢
  have hl : lv_has ls 2 [(0, .ref (M 0)), (1, .int xx)] := hl
  have hS : wS (m05 M) s.heap s.heap [] := wS.rf
  have f_s := hB
  have hZ := trivial
  refine lv_aload_n hx hb dX6_plainRules_0 rfl (lv_at hl 0 rfl) ?_
  refine lv_iconst (v := 1) hx hb dX6_plainRules_1 (by decide) ?_
  obtain ⟨⟨r_0, b_0⟩, hy_0⟩ : ∃ z9, r_runs ki nu tv 1 ra bo = z9 := ⟨_, rfl⟩
  refine wr_callv (va_runV (As := [.int 1]) (rest := []) hC (c2_X6_runs l G M x ki nu tv 1 ra bo hN (by omega) r_0 b_0 hy_0) (cwV 1 hts gX6_plainRules_X6_runs rfl rfl rfl kd_X6_runs ⟨Nat.le_of_ble_eq_true rfl, Nat.le_of_ble_eq_true rfl⟩) (ro_preV hK f_s.1 rfl f_s) rfl rfl hl.1 rfl (lv_room (Nat.le_of_ble_eq_true rfl)) dX6_plainRules_2 ⟨Nat.zero_le _, Nat.zero_le _⟩) hS (fun q h => h) (fun H locs f_n hq hS => ?_)
  have f_s := f_n
  have hq_0 := leE_runs hy_0
  refine lv_iload_n hx hb dX6_plainRules_5 rfl (lv_at hl 1 rfl) ?_
  refine lv_aload_n hx hb dX6_plainRules_6 rfl (lv_at hl 0 rfl) ?_
  refine r_get (C := RX6) (T := TX6) (N := 18) hx hb hts i_X6_plainRules_X6 hown hK f_s.1 rfl 16 (by decide) k_X6_plainRules_fieldLink_227 rfl rfl dX6_plainRules_7 ?_
  refine lv_iadd hx hb dX6_plainRules_10 ?_
  have hE9 : r_plainRules ki nu tv xx ra bo = (xx + nu, r_0, b_0) := (by (try unfold r_plainRules); (try rw [hy_0]); (try dsimp only); first | done | rfl)
  exact wr_iret hx hb hr hlocks dX6_plainRules_11 hS (by rw [hE9]; exact f_s) (by rw [hE9]; first | done | rfl)
theorem c2_X6_plainRules (l : Launch) (G : GG) (M : Nat → Nat) (x : MT) (ki nu tv : Int32) (xx : Int32) (ra : Nat) (bo : Nat → Int32)  (hN : mN M) (hra : ra + 1 ≤ 100) (r9 : Int32) (ra9 : Nat) (bo9 : Nat → Int32) (hy9 : r_plainRules ki nu tv xx ra bo = (r9, ra9, bo9)) : Met l yX6_plainRules wsX6_plainRules { frames := 1, cells := 0, slots := 0, locals := 21 } (roP G [.ref (M 0), .int xx] (fun H => AAt G M x ki nu tv (nI ra) bo H)) (wrQ (some (.int r9)) (fun H => AAt G M x ki nu tv (nI ra9) bo9 H) (m05 M)) 0 0 (m05 M) := by
  have h9 := c_X6_plainRules l G M x ki nu tv xx ra bo hN hra
  rw [hy9] at h9
  exact h9
theorem leE_plainRules {ki nu tv a v : Int32} {ra r : Nat} {bo f : Nat → Int32} (h : r_plainRules ki nu tv a ra bo = (v, r, f)) : r ≤ ra + 1 := by
  unfold r_plainRules at h
  repeat' split at h
  all_goals ((try have z0 := leE_runs ‹r_runs _ _ _ _ _ _ = _›); cases h; omega)
theorem i_X6_rulesActs_X6 : ∀ w ∈ wsX60, w ∈ wsX6_rulesActs := fun _ h => List.mem_cons_of_mem _ (List.mem_append_right _ h)
theorem k_X6_rulesActs_fieldLink_230 : Cond.fieldLink RX6 230 "SameWaterModel" "kind" "I" ∈ wsX6_rulesActs := by decide +kernel
theorem k_X6_rulesActs_fieldLink_227 : Cond.fieldLink RX6 227 "SameWaterModel" "number" "I" ∈ wsX6_rulesActs := by decide +kernel
theorem kd_X6_plainRules : yX6_plainRules.cls = RX6 ∧ yX6_plainRules.cls ≠ "java/lang/invoke/MethodHandle" ∧ yX6_plainRules.cls ≠ "java/lang/invoke/VarHandle" ∧ (parseMethodDescriptor yX6_plainRules.desc).map (fun d => d.parameters.length) = some 1 := by decide +kernel
def r_rulesActs (ki nu tv : Int32) (xx : Int32) (ra : Nat) (bo : Nat → Int32) : Int32 × Nat × (Nat → Int32) := if (r_isUnder ki 1) = true then (match r_runs ki nu tv 11 ra bo with | (r_0, b_0) => (match r_plainRules ki nu tv (xx * 3) r_0 b_0 with | (v_1, r_1, b_1) => (v_1, r_1, b_1))) else if ki = 5 then (match r_runs ki nu tv 51 ra bo with | (r_0, b_0) => (match r_plainRules ki nu tv xx r_0 b_0 with | (v_1, r_1, b_1) => (v_1 ^^^ nu, r_1, b_1))) else (match r_plainRules ki nu tv xx ra bo with | (v_0, r_0, b_0) => (v_0, r_0, b_0))
set_option maxHeartbeats 300000 in
set_option maxRecDepth 100000 in
theorem c_X6_rulesActs (l : Launch) (G : GG) (M : Nat → Nat) (x : MT) (ki nu tv : Int32) (xx : Int32) (ra : Nat) (bo : Nat → Int32)  (hN : mN M) (hra : ra + 2 ≤ 100) : Met l yX6_rulesActs wsX6_rulesActs { frames := 2, cells := 0, slots := 0, locals := 42 } (roP G [.ref (M 0), .int xx] (fun H => AAt G M x ki nu tv (nI ra) bo H)) (wrQ (some (.int ((r_rulesActs ki nu tv xx ra bo).1))) (fun H => AAt G M x ki nu tv (nI ((r_rulesActs ki nu tv xx ra bo).2.1)) ((r_rulesActs ki nu tv xx ra bo).2.2) H) (m05 M)) 0 0 (m05 M) := by
  refine Met.ofW (cc := cX6_rulesActs) (maxL := 2) (ret := (some .int)) (by decide) rfl ?_
  intro p e s m args below meth c s₁ Bd hml hv
  obtain ⟨rfl, hK, hB⟩ := hv
  have hx := Bd.exec
  have hb := Bd.bytes
  have hr := Bd.returns
  have hts := atoms_spec (ws := wsX6_rulesActs) Bd.pre
  have hown : s.vm.findClass RX6 = some m.cls := findClass_of_methodNamed Bd.named
  have hlocks := Bd.notSynchronized
  have hC : CallFix p m c cX6_rulesActs 2 s _ wsX6_rulesActs RX6 := ⟨hx, hb, hml, hown, hts⟩
  have hl := lv_entry ([.ref (M 0), .int xx]) (n := 2) (Nat.le_of_ble_eq_true rfl)
  rw [lg_entry_eq]
  generalize (lg_sl ([.ref (M 0), .int xx]) ++ List.replicate (2 - (lg_sl ([.ref (M 0), .int xx])).length) Slot.unset).toArray = ls at hl ⊢
  have hl : lv_has ls 2 [(0, .ref (M 0)), (1, .int xx)] := hl
  have hS : wS (m05 M) s.heap s.heap [] := wS.rf
  have f_s := hB
  have hZ := trivial
  refine lv_aload_n hx hb dX6_rulesActs_0 rfl (lv_at hl 0 rfl) ?_
  refine r_get (C := RX6) (T := TX6) (N := 18) hx hb hts i_X6_rulesActs_X6 hown hK f_s.1 rfl 15 (by decide) k_X6_rulesActs_fieldLink_230 rfl rfl dX6_rulesActs_1 ?_
  refine lv_iconst (v := 1) hx hb dX6_rulesActs_4 (by decide) ?_
  refine ro_call (va_runS (As := [.int ki, .int 1]) (rest := []) hC (c_X6_isUnder l G ki 1) (va_cwS 2 hts gX6_rulesActs_X6_isUnder rfl rfl rfl kd_X6_isUnder ⟨Nat.le_of_ble_eq_true rfl, Nat.le_of_ble_eq_true rfl⟩) (ro_preS hK trivial) rfl rfl hl.1 rfl (lv_room (Nat.le_of_ble_eq_true rfl)) dX6_rulesActs_5 ⟨Nat.zero_le _, Nat.zero_le _⟩) ?_
  refine bz_eq (tgt := 25) hx hb dX6_rulesActs_8 (by decide) (fun h_1 => ?_) (fun h_1 => ?_)
  · have h_1 : ¬ ((r_isUnder ki 1) = true) := h_1
    refine lv_aload_n hx hb dX6_rulesActs_25 rfl (lv_at hl 0 rfl) ?_
    refine r_get (C := RX6) (T := TX6) (N := 18) hx hb hts i_X6_rulesActs_X6 hown hK f_s.1 rfl 15 (by decide) k_X6_rulesActs_fieldLink_230 rfl rfl dX6_rulesActs_26 ?_
    refine lv_iconst (v := 5) hx hb dX6_rulesActs_29 (by decide) ?_
    refine lv_icmp_ne (tgt := 50) hx hb dX6_rulesActs_30 (by decide) (fun h_2 => ?_) (fun h_2 => ?_)
    · have h_2 : ¬ (ki = 5) := h_2
      refine lv_aload_n hx hb dX6_rulesActs_50 rfl (lv_at hl 0 rfl) ?_
      refine lv_iload_n hx hb dX6_rulesActs_51 rfl (lv_at hl 1 rfl) ?_
      obtain ⟨⟨v_0, r_0, b_0⟩, hy_0⟩ : ∃ z9, r_plainRules ki nu tv xx ra bo = z9 := ⟨_, rfl⟩
      refine wr_call (va_runV (As := [.int xx]) (rest := []) hC (c2_X6_plainRules l G M x ki nu tv xx ra bo hN (by omega) v_0 r_0 b_0 hy_0) (cwV 1 hts gX6_rulesActs_X6_plainRules rfl rfl rfl kd_X6_plainRules ⟨Nat.le_of_ble_eq_true rfl, Nat.le_of_ble_eq_true rfl⟩) (ro_preV hK f_s.1 rfl f_s) rfl rfl hl.1 rfl (lv_room (Nat.le_of_ble_eq_true rfl)) dX6_rulesActs_52 ⟨Nat.zero_le _, Nat.zero_le _⟩) hS (fun q h => h) (fun H locs f_n hq hS => ?_)
      have f_s := f_n
      have hq_0 := leE_plainRules hy_0
      have hE9 : r_rulesActs ki nu tv xx ra bo = (v_0, r_0, b_0) := (by (try unfold r_rulesActs); (repeat rw [if_neg h_1]); (repeat rw [if_neg h_2]); (try rw [hy_0]); (try dsimp only); first | done | rfl)
      exact wr_iret hx hb hr hlocks dX6_rulesActs_55 hS (by rw [hE9]; exact f_s) (by rw [hE9]; first | done | rfl)
    · have h_2 : ki = 5 := h_2
      refine lv_aload_n hx hb dX6_rulesActs_33 rfl (lv_at hl 0 rfl) ?_
      refine lv_bipush (v := 51) hx hb dX6_rulesActs_34 (by decide +kernel) ?_
      obtain ⟨⟨r_0, b_0⟩, hy_0⟩ : ∃ z9, r_runs ki nu tv 51 ra bo = z9 := ⟨_, rfl⟩
      refine wr_callv (va_runV (As := [.int 51]) (rest := []) hC (c2_X6_runs l G M x ki nu tv 51 ra bo hN (by omega) r_0 b_0 hy_0) (cwV 1 hts gX6_rulesActs_X6_runs rfl rfl rfl kd_X6_runs ⟨Nat.le_of_ble_eq_true rfl, Nat.le_of_ble_eq_true rfl⟩) (ro_preV hK f_s.1 rfl f_s) rfl rfl hl.1 rfl (lv_room (Nat.le_of_ble_eq_true rfl)) dX6_rulesActs_36 ⟨Nat.zero_le _, Nat.zero_le _⟩) hS (fun q h => h) (fun H locs f_n hq hS => ?_)
      have f_s := f_n
      have hq_0 := leE_runs hy_0
      refine lv_aload_n hx hb dX6_rulesActs_39 rfl (lv_at hl 0 rfl) ?_
      refine lv_iload_n hx hb dX6_rulesActs_40 rfl (lv_at hl 1 rfl) ?_
      obtain ⟨⟨v_1, r_1, b_1⟩, hy_1⟩ : ∃ z9, r_plainRules ki nu tv xx r_0 b_0 = z9 := ⟨_, rfl⟩
      refine wr_call (va_runV (As := [.int xx]) (rest := []) hC (c2_X6_plainRules l G M x ki nu tv xx r_0 b_0 hN (by omega) v_1 r_1 b_1 hy_1) (cwV 1 hts gX6_rulesActs_X6_plainRules rfl rfl rfl kd_X6_plainRules ⟨Nat.le_of_ble_eq_true rfl, Nat.le_of_ble_eq_true rfl⟩) (ro_preV hK f_s.1 rfl f_s) rfl rfl hl.1 rfl (lv_room (Nat.le_of_ble_eq_true rfl)) dX6_rulesActs_41 ⟨Nat.zero_le _, Nat.zero_le _⟩) hS (fun q h => h) (fun H locs f_n hq hS => ?_)
      have f_s := f_n
      have hq_1 := leE_plainRules hy_1
      refine lv_aload_n hx hb dX6_rulesActs_44 rfl (lv_at hl 0 rfl) ?_
      refine r_get (C := RX6) (T := TX6) (N := 18) hx hb hts i_X6_rulesActs_X6 hown hK f_s.1 rfl 16 (by decide) k_X6_rulesActs_fieldLink_227 rfl rfl dX6_rulesActs_45 ?_
      refine lv_ixor hx hb dX6_rulesActs_48 ?_
      have hE9 : r_rulesActs ki nu tv xx ra bo = (v_1 ^^^ nu, r_1, b_1) := (by (try unfold r_rulesActs); (repeat rw [if_neg h_1]); (repeat rw [if_pos h_2]); (try rw [hy_0]); (try dsimp only); (try rw [hy_1]); (try dsimp only); first | done | rfl)
      exact wr_iret hx hb hr hlocks dX6_rulesActs_49 hS (by rw [hE9]; exact f_s) (by rw [hE9]; first | done | rfl)
  · have h_1 : (r_isUnder ki 1) = true := h_1
    refine lv_aload_n hx hb dX6_rulesActs_11 rfl (lv_at hl 0 rfl) ?_
    refine lv_bipush (v := 11) hx hb dX6_rulesActs_12 (by decide +kernel) ?_
    obtain ⟨⟨r_0, b_0⟩, hy_0⟩ : ∃ z9, r_runs ki nu tv 11 ra bo = z9 := ⟨_, rfl⟩
    refine wr_callv (va_runV (As := [.int 11]) (rest := []) hC (c2_X6_runs l G M x ki nu tv 11 ra bo hN (by omega) r_0 b_0 hy_0) (cwV 1 hts gX6_rulesActs_X6_runs rfl rfl rfl kd_X6_runs ⟨Nat.le_of_ble_eq_true rfl, Nat.le_of_ble_eq_true rfl⟩) (ro_preV hK f_s.1 rfl f_s) rfl rfl hl.1 rfl (lv_room (Nat.le_of_ble_eq_true rfl)) dX6_rulesActs_14 ⟨Nat.zero_le _, Nat.zero_le _⟩) hS (fun q h => h) (fun H locs f_n hq hS => ?_)
    have f_s := f_n
    have hq_0 := leE_runs hy_0
    refine lv_aload_n hx hb dX6_rulesActs_17 rfl (lv_at hl 0 rfl) ?_
    refine lv_iload_n hx hb dX6_rulesActs_18 rfl (lv_at hl 1 rfl) ?_
    refine lv_iconst (v := 3) hx hb dX6_rulesActs_19 (by decide) ?_
    refine lv_imul hx hb dX6_rulesActs_20 ?_
    obtain ⟨⟨v_1, r_1, b_1⟩, hy_1⟩ : ∃ z9, r_plainRules ki nu tv (xx * 3) r_0 b_0 = z9 := ⟨_, rfl⟩
    refine wr_call (va_runV (As := [.int (xx * 3)]) (rest := []) hC (c2_X6_plainRules l G M x ki nu tv (xx * 3) r_0 b_0 hN (by omega) v_1 r_1 b_1 hy_1) (cwV 1 hts gX6_rulesActs_X6_plainRules rfl rfl rfl kd_X6_plainRules ⟨Nat.le_of_ble_eq_true rfl, Nat.le_of_ble_eq_true rfl⟩) (ro_preV hK f_s.1 rfl f_s) rfl rfl hl.1 rfl (lv_room (Nat.le_of_ble_eq_true rfl)) dX6_rulesActs_21 ⟨Nat.zero_le _, Nat.zero_le _⟩) hS (fun q h => h) (fun H locs f_n hq hS => ?_)
    have f_s := f_n
    have hq_1 := leE_plainRules hy_1
    have hE9 : r_rulesActs ki nu tv xx ra bo = (v_1, r_1, b_1) := (by (try unfold r_rulesActs); (repeat rw [if_pos h_1]); (try rw [hy_0]); (try dsimp only); (try rw [hy_1]); (try dsimp only); first | done | rfl)
    exact wr_iret hx hb hr hlocks dX6_rulesActs_24 hS (by rw [hE9]; exact f_s) (by rw [hE9]; first | done | rfl)
theorem c2_X6_rulesActs (l : Launch) (G : GG) (M : Nat → Nat) (x : MT) (ki nu tv : Int32) (xx : Int32) (ra : Nat) (bo : Nat → Int32)  (hN : mN M) (hra : ra + 2 ≤ 100) (r9 : Int32) (ra9 : Nat) (bo9 : Nat → Int32) (hy9 : r_rulesActs ki nu tv xx ra bo = (r9, ra9, bo9)) : Met l yX6_rulesActs wsX6_rulesActs { frames := 2, cells := 0, slots := 0, locals := 42 } (roP G [.ref (M 0), .int xx] (fun H => AAt G M x ki nu tv (nI ra) bo H)) (wrQ (some (.int r9)) (fun H => AAt G M x ki nu tv (nI ra9) bo9 H) (m05 M)) 0 0 (m05 M) := by
  have h9 := c_X6_rulesActs l G M x ki nu tv xx ra bo hN hra
  rw [hy9] at h9
  exact h9
theorem leE_rulesActs {ki nu tv a v : Int32} {ra r : Nat} {bo f : Nat → Int32} (h : r_rulesActs ki nu tv a ra bo = (v, r, f)) : r ≤ ra + 2 := by
  unfold r_rulesActs at h
  repeat' split at h
  all_goals ((try have z0 := leE_runs ‹r_runs _ _ _ _ _ _ = _›); (try have z1 := leE_plainRules ‹r_plainRules _ _ _ _ _ _ = _›); cases h; omega)
theorem i_X6_plainReads_X6 : ∀ w ∈ wsX60, w ∈ wsX6_plainReads := fun _ h => List.mem_cons_of_mem _ (List.mem_append_right _ h)
theorem k_X6_plainReads_fieldLink_242 : Cond.fieldLink RX6 242 "SameWaterModel" "tellsV" "I" ∈ wsX6_plainReads := by decide +kernel
theorem kd_X6_rulesActs : yX6_rulesActs.cls = RX6 ∧ yX6_rulesActs.cls ≠ "java/lang/invoke/MethodHandle" ∧ yX6_rulesActs.cls ≠ "java/lang/invoke/VarHandle" ∧ (parseMethodDescriptor yX6_rulesActs.desc).map (fun d => d.parameters.length) = some 1 := by decide +kernel
def r_plainReads (ki nu tv : Int32) (xx : Int32) (ra : Nat) (bo : Nat → Int32) : Int32 × Nat × (Nat → Int32) := (match r_runs ki nu tv 2 ra bo with | (r_0, b_0) => (match r_rulesActs ki nu tv xx r_0 b_0 with | (v_1, r_1, b_1) => (v_1 - tv, r_1, b_1)))
set_option maxHeartbeats 300000 in
set_option maxRecDepth 100000 in
theorem c_X6_plainReads (l : Launch) (G : GG) (M : Nat → Nat) (x : MT) (ki nu tv : Int32) (xx : Int32) (ra : Nat) (bo : Nat → Int32)  (hN : mN M) (hra : ra + 3 ≤ 100) : Met l yX6_plainReads wsX6_plainReads { frames := 3, cells := 0, slots := 0, locals := 63 } (roP G [.ref (M 0), .int xx] (fun H => AAt G M x ki nu tv (nI ra) bo H)) (wrQ (some (.int ((r_plainReads ki nu tv xx ra bo).1))) (fun H => AAt G M x ki nu tv (nI ((r_plainReads ki nu tv xx ra bo).2.1)) ((r_plainReads ki nu tv xx ra bo).2.2) H) (m05 M)) 0 0 (m05 M) := by
  refine Met.ofW (cc := cX6_plainReads) (maxL := 2) (ret := (some .int)) (by decide) rfl ?_
  intro p e s m args below meth c s₁ Bd hml hv
  obtain ⟨rfl, hK, hB⟩ := hv
  have hx := Bd.exec
  have hb := Bd.bytes
  have hr := Bd.returns
  have hts := atoms_spec (ws := wsX6_plainReads) Bd.pre
  have hown : s.vm.findClass RX6 = some m.cls := findClass_of_methodNamed Bd.named
  have hlocks := Bd.notSynchronized
  have hC : CallFix p m c cX6_plainReads 2 s _ wsX6_plainReads RX6 := ⟨hx, hb, hml, hown, hts⟩
  have hl := lv_entry ([.ref (M 0), .int xx]) (n := 2) (Nat.le_of_ble_eq_true rfl)
  rw [lg_entry_eq]
  generalize (lg_sl ([.ref (M 0), .int xx]) ++ List.replicate (2 - (lg_sl ([.ref (M 0), .int xx])).length) Slot.unset).toArray = ls at hl ⊢
  have hl : lv_has ls 2 [(0, .ref (M 0)), (1, .int xx)] := hl
  have hS : wS (m05 M) s.heap s.heap [] := wS.rf
  have f_s := hB
  have hZ := trivial
  refine lv_aload_n hx hb dX6_plainReads_0 rfl (lv_at hl 0 rfl) ?_
  refine lv_iconst (v := 2) hx hb dX6_plainReads_1 (by decide) ?_
  obtain ⟨⟨r_0, b_0⟩, hy_0⟩ : ∃ z9, r_runs ki nu tv 2 ra bo = z9 := ⟨_, rfl⟩
  refine wr_callv (va_runV (As := [.int 2]) (rest := []) hC (c2_X6_runs l G M x ki nu tv 2 ra bo hN (by omega) r_0 b_0 hy_0) (cwV 1 hts gX6_plainReads_X6_runs rfl rfl rfl kd_X6_runs ⟨Nat.le_of_ble_eq_true rfl, Nat.le_of_ble_eq_true rfl⟩) (ro_preV hK f_s.1 rfl f_s) rfl rfl hl.1 rfl (lv_room (Nat.le_of_ble_eq_true rfl)) dX6_plainReads_2 ⟨Nat.zero_le _, Nat.zero_le _⟩) hS (fun q h => h) (fun H locs f_n hq hS => ?_)
  have f_s := f_n
  have hq_0 := leE_runs hy_0
  refine lv_aload_n hx hb dX6_plainReads_5 rfl (lv_at hl 0 rfl) ?_
  refine lv_iload_n hx hb dX6_plainReads_6 rfl (lv_at hl 1 rfl) ?_
  obtain ⟨⟨v_1, r_1, b_1⟩, hy_1⟩ : ∃ z9, r_rulesActs ki nu tv xx r_0 b_0 = z9 := ⟨_, rfl⟩
  refine wr_call (va_runV (As := [.int xx]) (rest := []) hC (c2_X6_rulesActs l G M x ki nu tv xx r_0 b_0 hN (by omega) v_1 r_1 b_1 hy_1) (cwV 1 hts gX6_plainReads_X6_rulesActs rfl rfl rfl kd_X6_rulesActs ⟨Nat.le_of_ble_eq_true rfl, Nat.le_of_ble_eq_true rfl⟩) (ro_preV hK f_s.1 rfl f_s) rfl rfl hl.1 rfl (lv_room (Nat.le_of_ble_eq_true rfl)) dX6_plainReads_7 ⟨Nat.zero_le _, Nat.zero_le _⟩) hS (fun q h => h) (fun H locs f_n hq hS => ?_)
  have f_s := f_n
  have hq_1 := leE_rulesActs hy_1
  refine lv_aload_n hx hb dX6_plainReads_10 rfl (lv_at hl 0 rfl) ?_
  refine r_get (C := RX6) (T := TX6) (N := 18) hx hb hts i_X6_plainReads_X6 hown hK f_s.1 rfl 17 (by decide) k_X6_plainReads_fieldLink_242 rfl rfl dX6_plainReads_11 ?_
  refine lv_isub hx hb dX6_plainReads_14 ?_
  have hE9 : r_plainReads ki nu tv xx ra bo = (v_1 - tv, r_1, b_1) := (by (try unfold r_plainReads); (try rw [hy_0]); (try dsimp only); (try rw [hy_1]); (try dsimp only); first | done | rfl)
  exact wr_iret hx hb hr hlocks dX6_plainReads_15 hS (by rw [hE9]; exact f_s) (by rw [hE9]; first | done | rfl)
theorem c2_X6_plainReads (l : Launch) (G : GG) (M : Nat → Nat) (x : MT) (ki nu tv : Int32) (xx : Int32) (ra : Nat) (bo : Nat → Int32)  (hN : mN M) (hra : ra + 3 ≤ 100) (r9 : Int32) (ra9 : Nat) (bo9 : Nat → Int32) (hy9 : r_plainReads ki nu tv xx ra bo = (r9, ra9, bo9)) : Met l yX6_plainReads wsX6_plainReads { frames := 3, cells := 0, slots := 0, locals := 63 } (roP G [.ref (M 0), .int xx] (fun H => AAt G M x ki nu tv (nI ra) bo H)) (wrQ (some (.int r9)) (fun H => AAt G M x ki nu tv (nI ra9) bo9 H) (m05 M)) 0 0 (m05 M) := by
  have h9 := c_X6_plainReads l G M x ki nu tv xx ra bo hN hra
  rw [hy9] at h9
  exact h9
theorem leE_plainReads {ki nu tv a v : Int32} {ra r : Nat} {bo f : Nat → Int32} (h : r_plainReads ki nu tv a ra bo = (v, r, f)) : r ≤ ra + 3 := by
  unfold r_plainReads at h
  repeat' split at h
  all_goals ((try have z0 := leE_runs ‹r_runs _ _ _ _ _ _ = _›); (try have z1 := leE_rulesActs ‹r_rulesActs _ _ _ _ _ _ = _›); cases h; omega)
theorem kd_X6_plainReads : yX6_plainReads.cls = RX6 ∧ yX6_plainReads.cls ≠ "java/lang/invoke/MethodHandle" ∧ yX6_plainReads.cls ≠ "java/lang/invoke/VarHandle" ∧ (parseMethodDescriptor yX6_plainReads.desc).map (fun d => d.parameters.length) = some 1 := by decide +kernel
def r_keptReads (ki nu tv : Int32) (xx : Int32) (ra : Nat) (bo : Nat → Int32) : Int32 × Nat × (Nat → Int32) := (match r_runs ki nu tv 21 ra bo with | (r_0, b_0) => (match r_plainReads ki nu tv xx r_0 b_0 with | (v_1, r_1, b_1) => (-v_1, r_1, b_1)))
set_option maxHeartbeats 300000 in
set_option maxRecDepth 100000 in
theorem c_X6_keptReads (l : Launch) (G : GG) (M : Nat → Nat) (x : MT) (ki nu tv : Int32) (xx : Int32) (ra : Nat) (bo : Nat → Int32)  (hN : mN M) (hra : ra + 4 ≤ 100) : Met l yX6_keptReads wsX6_keptReads { frames := 4, cells := 0, slots := 0, locals := 84 } (roP G [.ref (M 0), .int xx] (fun H => AAt G M x ki nu tv (nI ra) bo H)) (wrQ (some (.int ((r_keptReads ki nu tv xx ra bo).1))) (fun H => AAt G M x ki nu tv (nI ((r_keptReads ki nu tv xx ra bo).2.1)) ((r_keptReads ki nu tv xx ra bo).2.2) H) (m05 M)) 0 0 (m05 M) := by
  refine Met.ofW (cc := cX6_keptReads) (maxL := 2) (ret := (some .int)) (by decide) rfl ?_
  intro p e s m args below meth c s₁ Bd hml hv
  obtain ⟨rfl, hK, hB⟩ := hv
  have hx := Bd.exec
  have hb := Bd.bytes
  have hr := Bd.returns
  have hts := atoms_spec (ws := wsX6_keptReads) Bd.pre
  have hown : s.vm.findClass RX6 = some m.cls := findClass_of_methodNamed Bd.named
  have hlocks := Bd.notSynchronized
  have hC : CallFix p m c cX6_keptReads 2 s _ wsX6_keptReads RX6 := ⟨hx, hb, hml, hown, hts⟩
  have hl := lv_entry ([.ref (M 0), .int xx]) (n := 2) (Nat.le_of_ble_eq_true rfl)
  rw [lg_entry_eq]
  generalize (lg_sl ([.ref (M 0), .int xx]) ++ List.replicate (2 - (lg_sl ([.ref (M 0), .int xx])).length) Slot.unset).toArray = ls at hl ⊢
  have hl : lv_has ls 2 [(0, .ref (M 0)), (1, .int xx)] := hl
  have hS : wS (m05 M) s.heap s.heap [] := wS.rf
  have f_s := hB
  have hZ := trivial
  refine lv_aload_n hx hb dX6_keptReads_0 rfl (lv_at hl 0 rfl) ?_
  refine lv_bipush (v := 21) hx hb dX6_keptReads_1 (by decide +kernel) ?_
  obtain ⟨⟨r_0, b_0⟩, hy_0⟩ : ∃ z9, r_runs ki nu tv 21 ra bo = z9 := ⟨_, rfl⟩
  refine wr_callv (va_runV (As := [.int 21]) (rest := []) hC (c2_X6_runs l G M x ki nu tv 21 ra bo hN (by omega) r_0 b_0 hy_0) (cwV 1 hts gX6_keptReads_X6_runs rfl rfl rfl kd_X6_runs ⟨Nat.le_of_ble_eq_true rfl, Nat.le_of_ble_eq_true rfl⟩) (ro_preV hK f_s.1 rfl f_s) rfl rfl hl.1 rfl (lv_room (Nat.le_of_ble_eq_true rfl)) dX6_keptReads_3 ⟨Nat.zero_le _, Nat.zero_le _⟩) hS (fun q h => h) (fun H locs f_n hq hS => ?_)
  have f_s := f_n
  have hq_0 := leE_runs hy_0
  refine lv_aload_n hx hb dX6_keptReads_6 rfl (lv_at hl 0 rfl) ?_
  refine lv_iload_n hx hb dX6_keptReads_7 rfl (lv_at hl 1 rfl) ?_
  obtain ⟨⟨v_1, r_1, b_1⟩, hy_1⟩ : ∃ z9, r_plainReads ki nu tv xx r_0 b_0 = z9 := ⟨_, rfl⟩
  refine wr_call (va_runV (As := [.int xx]) (rest := []) hC (c2_X6_plainReads l G M x ki nu tv xx r_0 b_0 hN (by omega) v_1 r_1 b_1 hy_1) (cwV 1 hts gX6_keptReads_X6_plainReads rfl rfl rfl kd_X6_plainReads ⟨Nat.le_of_ble_eq_true rfl, Nat.le_of_ble_eq_true rfl⟩) (ro_preV hK f_s.1 rfl f_s) rfl rfl hl.1 rfl (lv_room (Nat.le_of_ble_eq_true rfl)) dX6_keptReads_8 ⟨Nat.zero_le _, Nat.zero_le _⟩) hS (fun q h => h) (fun H locs f_n hq hS => ?_)
  have f_s := f_n
  have hq_1 := leE_plainReads hy_1
  refine lv_ineg hx hb dX6_keptReads_11 ?_
  have hE9 : r_keptReads ki nu tv xx ra bo = (-v_1, r_1, b_1) := (by (try unfold r_keptReads); (try rw [hy_0]); (try dsimp only); (try rw [hy_1]); (try dsimp only); first | done | rfl)
  exact wr_iret hx hb hr hlocks dX6_keptReads_12 hS (by rw [hE9]; exact f_s) (by rw [hE9]; first | done | rfl)
theorem c2_X6_keptReads (l : Launch) (G : GG) (M : Nat → Nat) (x : MT) (ki nu tv : Int32) (xx : Int32) (ra : Nat) (bo : Nat → Int32)  (hN : mN M) (hra : ra + 4 ≤ 100) (r9 : Int32) (ra9 : Nat) (bo9 : Nat → Int32) (hy9 : r_keptReads ki nu tv xx ra bo = (r9, ra9, bo9)) : Met l yX6_keptReads wsX6_keptReads { frames := 4, cells := 0, slots := 0, locals := 84 } (roP G [.ref (M 0), .int xx] (fun H => AAt G M x ki nu tv (nI ra) bo H)) (wrQ (some (.int r9)) (fun H => AAt G M x ki nu tv (nI ra9) bo9 H) (m05 M)) 0 0 (m05 M) := by
  have h9 := c_X6_keptReads l G M x ki nu tv xx ra bo hN hra
  rw [hy9] at h9
  exact h9
theorem leE_keptReads {ki nu tv a v : Int32} {ra r : Nat} {bo f : Nat → Int32} (h : r_keptReads ki nu tv a ra bo = (v, r, f)) : r ≤ ra + 4 := by
  unfold r_keptReads at h
  repeat' split at h
  all_goals ((try have z0 := leE_runs ‹r_runs _ _ _ _ _ _ = _›); (try have z1 := leE_plainReads ‹r_plainReads _ _ _ _ _ _ = _›); cases h; omega)
theorem i_X6_readsActs_X6 : ∀ w ∈ wsX60, w ∈ wsX6_readsActs := fun _ h => List.mem_cons_of_mem _ (List.mem_append_right _ h)
theorem k_X6_readsActs_fieldLink_230 : Cond.fieldLink RX6 230 "SameWaterModel" "kind" "I" ∈ wsX6_readsActs := by decide +kernel
theorem k_X6_readsActs_fieldLink_242 : Cond.fieldLink RX6 242 "SameWaterModel" "tellsV" "I" ∈ wsX6_readsActs := by decide +kernel
theorem kd_X6_keptReads : yX6_keptReads.cls = RX6 ∧ yX6_keptReads.cls ≠ "java/lang/invoke/MethodHandle" ∧ yX6_keptReads.cls ≠ "java/lang/invoke/VarHandle" ∧ (parseMethodDescriptor yX6_keptReads.desc).map (fun d => d.parameters.length) = some 1 := by decide +kernel
def r_readsActs (ki nu tv : Int32) (xx : Int32) (ra : Nat) (bo : Nat → Int32) : Int32 × Nat × (Nat → Int32) := if ki = 6 then (match r_runs ki nu tv 61 ra bo with | (r_0, b_0) => (match r_keptReads ki nu tv xx r_0 b_0 with | (v_1, r_1, b_1) => (v_1 + tv, r_1, b_1))) else if (r_isUnder ki 2) = true then (match r_keptReads ki nu tv xx ra bo with | (v_0, r_0, b_0) => (v_0, r_0, b_0)) else (match r_plainReads ki nu tv xx ra bo with | (v_0, r_0, b_0) => (v_0, r_0, b_0))
set_option maxHeartbeats 300000 in
set_option maxRecDepth 100000 in
theorem c_X6_readsActs (l : Launch) (G : GG) (M : Nat → Nat) (x : MT) (ki nu tv : Int32) (xx : Int32) (ra : Nat) (bo : Nat → Int32)  (hN : mN M) (hra : ra + 5 ≤ 100) : Met l yX6_readsActs wsX6_readsActs { frames := 5, cells := 0, slots := 0, locals := 105 } (roP G [.ref (M 0), .int xx] (fun H => AAt G M x ki nu tv (nI ra) bo H)) (wrQ (some (.int ((r_readsActs ki nu tv xx ra bo).1))) (fun H => AAt G M x ki nu tv (nI ((r_readsActs ki nu tv xx ra bo).2.1)) ((r_readsActs ki nu tv xx ra bo).2.2) H) (m05 M)) 0 0 (m05 M) := by
  refine Met.ofW (cc := cX6_readsActs) (maxL := 2) (ret := (some .int)) (by decide) rfl ?_
  intro p e s m args below meth c s₁ Bd hml hv
  obtain ⟨rfl, hK, hB⟩ := hv
  have hx := Bd.exec
  have hb := Bd.bytes
  have hr := Bd.returns
  have hts := atoms_spec (ws := wsX6_readsActs) Bd.pre
  have hown : s.vm.findClass RX6 = some m.cls := findClass_of_methodNamed Bd.named
  have hlocks := Bd.notSynchronized
  have hC : CallFix p m c cX6_readsActs 2 s _ wsX6_readsActs RX6 := ⟨hx, hb, hml, hown, hts⟩
  have hl := lv_entry ([.ref (M 0), .int xx]) (n := 2) (Nat.le_of_ble_eq_true rfl)
  rw [lg_entry_eq]
  generalize (lg_sl ([.ref (M 0), .int xx]) ++ List.replicate (2 - (lg_sl ([.ref (M 0), .int xx])).length) Slot.unset).toArray = ls at hl ⊢
  have hl : lv_has ls 2 [(0, .ref (M 0)), (1, .int xx)] := hl
  have hS : wS (m05 M) s.heap s.heap [] := wS.rf
  have f_s := hB
  have hZ := trivial
  refine lv_aload_n hx hb dX6_readsActs_0 rfl (lv_at hl 0 rfl) ?_
  refine r_get (C := RX6) (T := TX6) (N := 18) hx hb hts i_X6_readsActs_X6 hown hK f_s.1 rfl 15 (by decide) k_X6_readsActs_fieldLink_230 rfl rfl dX6_readsActs_1 ?_
  refine lv_bipush (v := 6) hx hb dX6_readsActs_4 (by decide +kernel) ?_
  refine lv_icmp_ne (tgt := 26) hx hb dX6_readsActs_6 (by decide) (fun h_1 => ?_) (fun h_1 => ?_)
  · have h_1 : ¬ (ki = 6) := h_1
    refine lv_aload_n hx hb dX6_readsActs_26 rfl (lv_at hl 0 rfl) ?_
    refine r_get (C := RX6) (T := TX6) (N := 18) hx hb hts i_X6_readsActs_X6 hown hK f_s.1 rfl 15 (by decide) k_X6_readsActs_fieldLink_230 rfl rfl dX6_readsActs_27 ?_
    refine lv_iconst (v := 2) hx hb dX6_readsActs_30 (by decide) ?_
    refine ro_call (va_runS (As := [.int ki, .int 2]) (rest := []) hC (c_X6_isUnder l G ki 2) (va_cwS 2 hts gX6_readsActs_X6_isUnder rfl rfl rfl kd_X6_isUnder ⟨Nat.le_of_ble_eq_true rfl, Nat.le_of_ble_eq_true rfl⟩) (ro_preS hK trivial) rfl rfl hl.1 rfl (lv_room (Nat.le_of_ble_eq_true rfl)) dX6_readsActs_31 ⟨Nat.zero_le _, Nat.zero_le _⟩) ?_
    refine bz_eq (tgt := 45) hx hb dX6_readsActs_34 (by decide) (fun h_2 => ?_) (fun h_2 => ?_)
    · have h_2 : ¬ ((r_isUnder ki 2) = true) := h_2
      refine lv_aload_n hx hb dX6_readsActs_45 rfl (lv_at hl 0 rfl) ?_
      refine lv_iload_n hx hb dX6_readsActs_46 rfl (lv_at hl 1 rfl) ?_
      obtain ⟨⟨v_0, r_0, b_0⟩, hy_0⟩ : ∃ z9, r_plainReads ki nu tv xx ra bo = z9 := ⟨_, rfl⟩
      refine wr_call (va_runV (As := [.int xx]) (rest := []) hC (c2_X6_plainReads l G M x ki nu tv xx ra bo hN (by omega) v_0 r_0 b_0 hy_0) (cwV 1 hts gX6_readsActs_X6_plainReads rfl rfl rfl kd_X6_plainReads ⟨Nat.le_of_ble_eq_true rfl, Nat.le_of_ble_eq_true rfl⟩) (ro_preV hK f_s.1 rfl f_s) rfl rfl hl.1 rfl (lv_room (Nat.le_of_ble_eq_true rfl)) dX6_readsActs_47 ⟨Nat.zero_le _, Nat.zero_le _⟩) hS (fun q h => h) (fun H locs f_n hq hS => ?_)
      have f_s := f_n
      have hq_0 := leE_plainReads hy_0
      have hE9 : r_readsActs ki nu tv xx ra bo = (v_0, r_0, b_0) := (by (try unfold r_readsActs); (repeat rw [if_neg h_1]); (repeat rw [if_neg h_2]); (try rw [hy_0]); (try dsimp only); first | done | rfl)
      exact wr_iret hx hb hr hlocks dX6_readsActs_50 hS (by rw [hE9]; exact f_s) (by rw [hE9]; first | done | rfl)
    · have h_2 : (r_isUnder ki 2) = true := h_2
      refine lv_aload_n hx hb dX6_readsActs_37 rfl (lv_at hl 0 rfl) ?_
      refine lv_iload_n hx hb dX6_readsActs_38 rfl (lv_at hl 1 rfl) ?_
      obtain ⟨⟨v_0, r_0, b_0⟩, hy_0⟩ : ∃ z9, r_keptReads ki nu tv xx ra bo = z9 := ⟨_, rfl⟩
      refine wr_call (va_runV (As := [.int xx]) (rest := []) hC (c2_X6_keptReads l G M x ki nu tv xx ra bo hN (by omega) v_0 r_0 b_0 hy_0) (cwV 1 hts gX6_readsActs_X6_keptReads rfl rfl rfl kd_X6_keptReads ⟨Nat.le_of_ble_eq_true rfl, Nat.le_of_ble_eq_true rfl⟩) (ro_preV hK f_s.1 rfl f_s) rfl rfl hl.1 rfl (lv_room (Nat.le_of_ble_eq_true rfl)) dX6_readsActs_39 ⟨Nat.zero_le _, Nat.zero_le _⟩) hS (fun q h => h) (fun H locs f_n hq hS => ?_)
      have f_s := f_n
      have hq_0 := leE_keptReads hy_0
      refine lv_goto (tgt := 50) hx hb dX6_readsActs_42 (by decide) ?_
      have hE9 : r_readsActs ki nu tv xx ra bo = (v_0, r_0, b_0) := (by (try unfold r_readsActs); (repeat rw [if_neg h_1]); (repeat rw [if_pos h_2]); (try rw [hy_0]); (try dsimp only); first | done | rfl)
      exact wr_iret hx hb hr hlocks dX6_readsActs_50 hS (by rw [hE9]; exact f_s) (by rw [hE9]; first | done | rfl)
  · have h_1 : ki = 6 := h_1
    refine lv_aload_n hx hb dX6_readsActs_9 rfl (lv_at hl 0 rfl) ?_
    refine lv_bipush (v := 61) hx hb dX6_readsActs_10 (by decide +kernel) ?_
    obtain ⟨⟨r_0, b_0⟩, hy_0⟩ : ∃ z9, r_runs ki nu tv 61 ra bo = z9 := ⟨_, rfl⟩
    refine wr_callv (va_runV (As := [.int 61]) (rest := []) hC (c2_X6_runs l G M x ki nu tv 61 ra bo hN (by omega) r_0 b_0 hy_0) (cwV 1 hts gX6_readsActs_X6_runs rfl rfl rfl kd_X6_runs ⟨Nat.le_of_ble_eq_true rfl, Nat.le_of_ble_eq_true rfl⟩) (ro_preV hK f_s.1 rfl f_s) rfl rfl hl.1 rfl (lv_room (Nat.le_of_ble_eq_true rfl)) dX6_readsActs_12 ⟨Nat.zero_le _, Nat.zero_le _⟩) hS (fun q h => h) (fun H locs f_n hq hS => ?_)
    have f_s := f_n
    have hq_0 := leE_runs hy_0
    refine lv_aload_n hx hb dX6_readsActs_15 rfl (lv_at hl 0 rfl) ?_
    refine lv_iload_n hx hb dX6_readsActs_16 rfl (lv_at hl 1 rfl) ?_
    obtain ⟨⟨v_1, r_1, b_1⟩, hy_1⟩ : ∃ z9, r_keptReads ki nu tv xx r_0 b_0 = z9 := ⟨_, rfl⟩
    refine wr_call (va_runV (As := [.int xx]) (rest := []) hC (c2_X6_keptReads l G M x ki nu tv xx r_0 b_0 hN (by omega) v_1 r_1 b_1 hy_1) (cwV 1 hts gX6_readsActs_X6_keptReads rfl rfl rfl kd_X6_keptReads ⟨Nat.le_of_ble_eq_true rfl, Nat.le_of_ble_eq_true rfl⟩) (ro_preV hK f_s.1 rfl f_s) rfl rfl hl.1 rfl (lv_room (Nat.le_of_ble_eq_true rfl)) dX6_readsActs_17 ⟨Nat.zero_le _, Nat.zero_le _⟩) hS (fun q h => h) (fun H locs f_n hq hS => ?_)
    have f_s := f_n
    have hq_1 := leE_keptReads hy_1
    refine lv_aload_n hx hb dX6_readsActs_20 rfl (lv_at hl 0 rfl) ?_
    refine r_get (C := RX6) (T := TX6) (N := 18) hx hb hts i_X6_readsActs_X6 hown hK f_s.1 rfl 17 (by decide) k_X6_readsActs_fieldLink_242 rfl rfl dX6_readsActs_21 ?_
    refine lv_iadd hx hb dX6_readsActs_24 ?_
    have hE9 : r_readsActs ki nu tv xx ra bo = (v_1 + tv, r_1, b_1) := (by (try unfold r_readsActs); (repeat rw [if_pos h_1]); (try rw [hy_0]); (try dsimp only); (try rw [hy_1]); (try dsimp only); first | done | rfl)
    exact wr_iret hx hb hr hlocks dX6_readsActs_25 hS (by rw [hE9]; exact f_s) (by rw [hE9]; first | done | rfl)
theorem c2_X6_readsActs (l : Launch) (G : GG) (M : Nat → Nat) (x : MT) (ki nu tv : Int32) (xx : Int32) (ra : Nat) (bo : Nat → Int32)  (hN : mN M) (hra : ra + 5 ≤ 100) (r9 : Int32) (ra9 : Nat) (bo9 : Nat → Int32) (hy9 : r_readsActs ki nu tv xx ra bo = (r9, ra9, bo9)) : Met l yX6_readsActs wsX6_readsActs { frames := 5, cells := 0, slots := 0, locals := 105 } (roP G [.ref (M 0), .int xx] (fun H => AAt G M x ki nu tv (nI ra) bo H)) (wrQ (some (.int r9)) (fun H => AAt G M x ki nu tv (nI ra9) bo9 H) (m05 M)) 0 0 (m05 M) := by
  have h9 := c_X6_readsActs l G M x ki nu tv xx ra bo hN hra
  rw [hy9] at h9
  exact h9
theorem leE_readsActs {ki nu tv a v : Int32} {ra r : Nat} {bo f : Nat → Int32} (h : r_readsActs ki nu tv a ra bo = (v, r, f)) : r ≤ ra + 5 := by
  unfold r_readsActs at h
  repeat' split at h
  all_goals ((try have z0 := leE_runs ‹r_runs _ _ _ _ _ _ = _›); (try have z1 := leE_keptReads ‹r_keptReads _ _ _ _ _ _ = _›); (try have z2 := leE_plainReads ‹r_plainReads _ _ _ _ _ _ = _›); cases h; omega)
theorem kd_X6_readsActs : yX6_readsActs.cls = RX6 ∧ yX6_readsActs.cls ≠ "java/lang/invoke/MethodHandle" ∧ yX6_readsActs.cls ≠ "java/lang/invoke/VarHandle" ∧ (parseMethodDescriptor yX6_readsActs.desc).map (fun d => d.parameters.length) = some 1 := by decide +kernel
def r_plainAnswers (ki nu tv : Int32) (xx : Int32) (ra : Nat) (bo : Nat → Int32) : Int32 × Nat × (Nat → Int32) := (match r_runs ki nu tv 3 ra bo with | (r_0, b_0) => (match r_readsActs ki nu tv xx r_0 b_0 with | (v_1, r_1, b_1) => (v_1 * 2, r_1, b_1)))
set_option maxHeartbeats 300000 in
set_option maxRecDepth 100000 in
theorem c_X6_plainAnswers (l : Launch) (G : GG) (M : Nat → Nat) (x : MT) (ki nu tv : Int32) (xx : Int32) (ra : Nat) (bo : Nat → Int32)  (hN : mN M) (hra : ra + 6 ≤ 100) : Met l yX6_plainAnswers wsX6_plainAnswers { frames := 6, cells := 0, slots := 0, locals := 126 } (roP G [.ref (M 0), .int xx] (fun H => AAt G M x ki nu tv (nI ra) bo H)) (wrQ (some (.int ((r_plainAnswers ki nu tv xx ra bo).1))) (fun H => AAt G M x ki nu tv (nI ((r_plainAnswers ki nu tv xx ra bo).2.1)) ((r_plainAnswers ki nu tv xx ra bo).2.2) H) (m05 M)) 0 0 (m05 M) := by
  refine Met.ofW (cc := cX6_plainAnswers) (maxL := 2) (ret := (some .int)) (by decide) rfl ?_
  intro p e s m args below meth c s₁ Bd hml hv
  obtain ⟨rfl, hK, hB⟩ := hv
  have hx := Bd.exec
  have hb := Bd.bytes
  have hr := Bd.returns
  have hts := atoms_spec (ws := wsX6_plainAnswers) Bd.pre
  have hown : s.vm.findClass RX6 = some m.cls := findClass_of_methodNamed Bd.named
  have hlocks := Bd.notSynchronized
  have hC : CallFix p m c cX6_plainAnswers 2 s _ wsX6_plainAnswers RX6 := ⟨hx, hb, hml, hown, hts⟩
  have hl := lv_entry ([.ref (M 0), .int xx]) (n := 2) (Nat.le_of_ble_eq_true rfl)
  rw [lg_entry_eq]
  generalize (lg_sl ([.ref (M 0), .int xx]) ++ List.replicate (2 - (lg_sl ([.ref (M 0), .int xx])).length) Slot.unset).toArray = ls at hl ⊢
  have hl : lv_has ls 2 [(0, .ref (M 0)), (1, .int xx)] := hl
  have hS : wS (m05 M) s.heap s.heap [] := wS.rf
  have f_s := hB
  have hZ := trivial
  refine lv_aload_n hx hb dX6_plainAnswers_0 rfl (lv_at hl 0 rfl) ?_
  refine lv_iconst (v := 3) hx hb dX6_plainAnswers_1 (by decide) ?_
  obtain ⟨⟨r_0, b_0⟩, hy_0⟩ : ∃ z9, r_runs ki nu tv 3 ra bo = z9 := ⟨_, rfl⟩
  refine wr_callv (va_runV (As := [.int 3]) (rest := []) hC (c2_X6_runs l G M x ki nu tv 3 ra bo hN (by omega) r_0 b_0 hy_0) (cwV 1 hts gX6_plainAnswers_X6_runs rfl rfl rfl kd_X6_runs ⟨Nat.le_of_ble_eq_true rfl, Nat.le_of_ble_eq_true rfl⟩) (ro_preV hK f_s.1 rfl f_s) rfl rfl hl.1 rfl (lv_room (Nat.le_of_ble_eq_true rfl)) dX6_plainAnswers_2 ⟨Nat.zero_le _, Nat.zero_le _⟩) hS (fun q h => h) (fun H locs f_n hq hS => ?_)
  have f_s := f_n
  have hq_0 := leE_runs hy_0
  refine lv_aload_n hx hb dX6_plainAnswers_5 rfl (lv_at hl 0 rfl) ?_
  refine lv_iload_n hx hb dX6_plainAnswers_6 rfl (lv_at hl 1 rfl) ?_
  obtain ⟨⟨v_1, r_1, b_1⟩, hy_1⟩ : ∃ z9, r_readsActs ki nu tv xx r_0 b_0 = z9 := ⟨_, rfl⟩
  refine wr_call (va_runV (As := [.int xx]) (rest := []) hC (c2_X6_readsActs l G M x ki nu tv xx r_0 b_0 hN (by omega) v_1 r_1 b_1 hy_1) (cwV 1 hts gX6_plainAnswers_X6_readsActs rfl rfl rfl kd_X6_readsActs ⟨Nat.le_of_ble_eq_true rfl, Nat.le_of_ble_eq_true rfl⟩) (ro_preV hK f_s.1 rfl f_s) rfl rfl hl.1 rfl (lv_room (Nat.le_of_ble_eq_true rfl)) dX6_plainAnswers_7 ⟨Nat.zero_le _, Nat.zero_le _⟩) hS (fun q h => h) (fun H locs f_n hq hS => ?_)
  have f_s := f_n
  have hq_1 := leE_readsActs hy_1
  refine lv_iconst (v := 2) hx hb dX6_plainAnswers_10 (by decide) ?_
  refine lv_imul hx hb dX6_plainAnswers_11 ?_
  have hE9 : r_plainAnswers ki nu tv xx ra bo = (v_1 * 2, r_1, b_1) := (by (try unfold r_plainAnswers); (try rw [hy_0]); (try dsimp only); (try rw [hy_1]); (try dsimp only); first | done | rfl)
  exact wr_iret hx hb hr hlocks dX6_plainAnswers_12 hS (by rw [hE9]; exact f_s) (by rw [hE9]; first | done | rfl)
theorem c2_X6_plainAnswers (l : Launch) (G : GG) (M : Nat → Nat) (x : MT) (ki nu tv : Int32) (xx : Int32) (ra : Nat) (bo : Nat → Int32)  (hN : mN M) (hra : ra + 6 ≤ 100) (r9 : Int32) (ra9 : Nat) (bo9 : Nat → Int32) (hy9 : r_plainAnswers ki nu tv xx ra bo = (r9, ra9, bo9)) : Met l yX6_plainAnswers wsX6_plainAnswers { frames := 6, cells := 0, slots := 0, locals := 126 } (roP G [.ref (M 0), .int xx] (fun H => AAt G M x ki nu tv (nI ra) bo H)) (wrQ (some (.int r9)) (fun H => AAt G M x ki nu tv (nI ra9) bo9 H) (m05 M)) 0 0 (m05 M) := by
  have h9 := c_X6_plainAnswers l G M x ki nu tv xx ra bo hN hra
  rw [hy9] at h9
  exact h9
theorem leE_plainAnswers {ki nu tv a v : Int32} {ra r : Nat} {bo f : Nat → Int32} (h : r_plainAnswers ki nu tv a ra bo = (v, r, f)) : r ≤ ra + 6 := by
  unfold r_plainAnswers at h
  repeat' split at h
  all_goals ((try have z0 := leE_runs ‹r_runs _ _ _ _ _ _ = _›); (try have z1 := leE_readsActs ‹r_readsActs _ _ _ _ _ _ = _›); cases h; omega)
theorem i_X6_answersActs_X6 : ∀ w ∈ wsX60, w ∈ wsX6_answersActs := fun _ h => List.mem_cons_of_mem _ (List.mem_append_right _ h)
theorem k_X6_answersActs_fieldLink_230 : Cond.fieldLink RX6 230 "SameWaterModel" "kind" "I" ∈ wsX6_answersActs := by decide +kernel
theorem kd_X6_plainAnswers : yX6_plainAnswers.cls = RX6 ∧ yX6_plainAnswers.cls ≠ "java/lang/invoke/MethodHandle" ∧ yX6_plainAnswers.cls ≠ "java/lang/invoke/VarHandle" ∧ (parseMethodDescriptor yX6_plainAnswers.desc).map (fun d => d.parameters.length) = some 1 := by decide +kernel
def r_answersActs (ki nu tv : Int32) (xx : Int32) (ra : Nat) (bo : Nat → Int32) : Int32 × Nat × (Nat → Int32) := if (r_isUnder ki 3) = true then (match r_runs ki nu tv 31 ra bo with | (r_0, b_0) => (match r_plainAnswers ki nu tv xx r_0 b_0 with | (v_1, r_1, b_1) => (v_1 ^^^ 7, r_1, b_1))) else if ki = 4 then (match r_runs ki nu tv 41 ra bo with | (r_0, b_0) => (match r_plainAnswers ki nu tv (xx - 1) r_0 b_0 with | (v_1, r_1, b_1) => (match r_rulesActs ki nu tv 2 r_1 b_1 with | (v_2, r_2, b_2) => (v_1 + v_2, r_2, b_2)))) else (match r_plainAnswers ki nu tv xx ra bo with | (v_0, r_0, b_0) => (v_0, r_0, b_0))
set_option maxHeartbeats 300000 in
set_option maxRecDepth 100000 in
theorem c_X6_answersActs (l : Launch) (G : GG) (M : Nat → Nat) (x : MT) (ki nu tv : Int32) (xx : Int32) (ra : Nat) (bo : Nat → Int32)  (hN : mN M) (hra : ra + 9 ≤ 100) : Met l yX6_answersActs wsX6_answersActs { frames := 7, cells := 0, slots := 0, locals := 147 } (roP G [.ref (M 0), .int xx] (fun H => AAt G M x ki nu tv (nI ra) bo H)) (wrQ (some (.int ((r_answersActs ki nu tv xx ra bo).1))) (fun H => AAt G M x ki nu tv (nI ((r_answersActs ki nu tv xx ra bo).2.1)) ((r_answersActs ki nu tv xx ra bo).2.2) H) (m05 M)) 0 0 (m05 M) := by
  refine Met.ofW (cc := cX6_answersActs) (maxL := 3) (ret := (some .int)) (by decide) rfl ?_
  intro p e s m args below meth c s₁ Bd hml hv
  obtain ⟨rfl, hK, hB⟩ := hv
  have hx := Bd.exec
  have hb := Bd.bytes
  have hr := Bd.returns
  have hts := atoms_spec (ws := wsX6_answersActs) Bd.pre
  have hown : s.vm.findClass RX6 = some m.cls := findClass_of_methodNamed Bd.named
  have hlocks := Bd.notSynchronized
  have hC : CallFix p m c cX6_answersActs 3 s _ wsX6_answersActs RX6 := ⟨hx, hb, hml, hown, hts⟩
  have hl := lv_entry ([.ref (M 0), .int xx]) (n := 3) (Nat.le_of_ble_eq_true rfl)
  rw [lg_entry_eq]
  generalize (lg_sl ([.ref (M 0), .int xx]) ++ List.replicate (3 - (lg_sl ([.ref (M 0), .int xx])).length) Slot.unset).toArray = ls at hl ⊢
  have hl : lv_has ls 3 [(0, .ref (M 0)), (1, .int xx)] := hl
  have hS : wS (m05 M) s.heap s.heap [] := wS.rf
  have f_s := hB
  have hZ := trivial
  refine lv_aload_n hx hb dX6_answersActs_0 rfl (lv_at hl 0 rfl) ?_
  refine r_get (C := RX6) (T := TX6) (N := 18) hx hb hts i_X6_answersActs_X6 hown hK f_s.1 rfl 15 (by decide) k_X6_answersActs_fieldLink_230 rfl rfl dX6_answersActs_1 ?_
  refine lv_iconst (v := 3) hx hb dX6_answersActs_4 (by decide) ?_
  refine ro_call (va_runS (As := [.int ki, .int 3]) (rest := []) hC (c_X6_isUnder l G ki 3) (va_cwS 2 hts gX6_answersActs_X6_isUnder rfl rfl rfl kd_X6_isUnder ⟨Nat.le_of_ble_eq_true rfl, Nat.le_of_ble_eq_true rfl⟩) (ro_preS hK trivial) rfl rfl hl.1 rfl (lv_room (Nat.le_of_ble_eq_true rfl)) dX6_answersActs_5 ⟨Nat.zero_le _, Nat.zero_le _⟩) ?_
  refine bz_eq (tgt := 26) hx hb dX6_answersActs_8 (by decide) (fun h_1 => ?_) (fun h_1 => ?_)
  · have h_1 : ¬ ((r_isUnder ki 3) = true) := h_1
    refine lv_aload_n hx hb dX6_answersActs_26 rfl (lv_at hl 0 rfl) ?_
    refine r_get (C := RX6) (T := TX6) (N := 18) hx hb hts i_X6_answersActs_X6 hown hK f_s.1 rfl 15 (by decide) k_X6_answersActs_fieldLink_230 rfl rfl dX6_answersActs_27 ?_
    refine lv_iconst (v := 4) hx hb dX6_answersActs_30 (by decide) ?_
    refine lv_icmp_ne (tgt := 56) hx hb dX6_answersActs_31 (by decide) (fun h_2 => ?_) (fun h_2 => ?_)
    · have h_2 : ¬ (ki = 4) := h_2
      refine lv_aload_n hx hb dX6_answersActs_56 rfl (lv_at hl 0 rfl) ?_
      refine lv_iload_n hx hb dX6_answersActs_57 rfl (lv_at hl 1 rfl) ?_
      obtain ⟨⟨v_0, r_0, b_0⟩, hy_0⟩ : ∃ z9, r_plainAnswers ki nu tv xx ra bo = z9 := ⟨_, rfl⟩
      refine wr_call (va_runV (As := [.int xx]) (rest := []) hC (c2_X6_plainAnswers l G M x ki nu tv xx ra bo hN (by omega) v_0 r_0 b_0 hy_0) (cwV 1 hts gX6_answersActs_X6_plainAnswers rfl rfl rfl kd_X6_plainAnswers ⟨Nat.le_of_ble_eq_true rfl, Nat.le_of_ble_eq_true rfl⟩) (ro_preV hK f_s.1 rfl f_s) rfl rfl hl.1 rfl (lv_room (Nat.le_of_ble_eq_true rfl)) dX6_answersActs_58 ⟨Nat.zero_le _, Nat.zero_le _⟩) hS (fun q h => h) (fun H locs f_n hq hS => ?_)
      have f_s := f_n
      have hq_0 := leE_plainAnswers hy_0
      have hE9 : r_answersActs ki nu tv xx ra bo = (v_0, r_0, b_0) := (by (try unfold r_answersActs); (repeat rw [if_neg h_1]); (repeat rw [if_neg h_2]); (try rw [hy_0]); (try dsimp only); first | done | rfl)
      exact wr_iret hx hb hr hlocks dX6_answersActs_61 hS (by rw [hE9]; exact f_s) (by rw [hE9]; first | done | rfl)
    · have h_2 : ki = 4 := h_2
      refine lv_aload_n hx hb dX6_answersActs_34 rfl (lv_at hl 0 rfl) ?_
      refine lv_bipush (v := 41) hx hb dX6_answersActs_35 (by decide +kernel) ?_
      obtain ⟨⟨r_0, b_0⟩, hy_0⟩ : ∃ z9, r_runs ki nu tv 41 ra bo = z9 := ⟨_, rfl⟩
      refine wr_callv (va_runV (As := [.int 41]) (rest := []) hC (c2_X6_runs l G M x ki nu tv 41 ra bo hN (by omega) r_0 b_0 hy_0) (cwV 1 hts gX6_answersActs_X6_runs rfl rfl rfl kd_X6_runs ⟨Nat.le_of_ble_eq_true rfl, Nat.le_of_ble_eq_true rfl⟩) (ro_preV hK f_s.1 rfl f_s) rfl rfl hl.1 rfl (lv_room (Nat.le_of_ble_eq_true rfl)) dX6_answersActs_37 ⟨Nat.zero_le _, Nat.zero_le _⟩) hS (fun q h => h) (fun H locs f_n hq hS => ?_)
      have f_s := f_n
      have hq_0 := leE_runs hy_0
      refine lv_aload_n hx hb dX6_answersActs_40 rfl (lv_at hl 0 rfl) ?_
      refine lv_iload_n hx hb dX6_answersActs_41 rfl (lv_at hl 1 rfl) ?_
      refine lv_iconst (v := 1) hx hb dX6_answersActs_42 (by decide) ?_
      refine lv_isub hx hb dX6_answersActs_43 ?_
      obtain ⟨⟨v_1, r_1, b_1⟩, hy_1⟩ : ∃ z9, r_plainAnswers ki nu tv (xx - 1) r_0 b_0 = z9 := ⟨_, rfl⟩
      refine wr_call (va_runV (As := [.int (xx - 1)]) (rest := []) hC (c2_X6_plainAnswers l G M x ki nu tv (xx - 1) r_0 b_0 hN (by omega) v_1 r_1 b_1 hy_1) (cwV 1 hts gX6_answersActs_X6_plainAnswers rfl rfl rfl kd_X6_plainAnswers ⟨Nat.le_of_ble_eq_true rfl, Nat.le_of_ble_eq_true rfl⟩) (ro_preV hK f_s.1 rfl f_s) rfl rfl hl.1 rfl (lv_room (Nat.le_of_ble_eq_true rfl)) dX6_answersActs_44 ⟨Nat.zero_le _, Nat.zero_le _⟩) hS (fun q h => h) (fun H locs f_n hq hS => ?_)
      have f_s := f_n
      have hq_1 := leE_plainAnswers hy_1
      refine lv_istore_n (lv' := [(2, .int v_1), (0, .ref (M 0)), (1, .int xx)]) hx hb dX6_answersActs_47 rfl hl (by decide) rfl (fun ls hl => ?_)
      refine lv_iload_n hx hb dX6_answersActs_48 rfl (lv_at hl 0 rfl) ?_
      refine lv_aload_n hx hb dX6_answersActs_49 rfl (lv_at hl 1 rfl) ?_
      refine lv_iconst (v := 2) hx hb dX6_answersActs_50 (by decide) ?_
      obtain ⟨⟨v_2, r_2, b_2⟩, hy_2⟩ : ∃ z9, r_rulesActs ki nu tv 2 r_1 b_1 = z9 := ⟨_, rfl⟩
      refine wr_call (va_runV (As := [.int 2]) (rest := [.int v_1]) hC (c2_X6_rulesActs l G M x ki nu tv 2 r_1 b_1 hN (by omega) v_2 r_2 b_2 hy_2) (cwV 1 hts gX6_answersActs_X6_rulesActs rfl rfl rfl kd_X6_rulesActs ⟨Nat.le_of_ble_eq_true rfl, Nat.le_of_ble_eq_true rfl⟩) (ro_preV hK f_s.1 rfl f_s) rfl rfl hl.1 rfl (lv_room (Nat.le_of_ble_eq_true rfl)) dX6_answersActs_51 ⟨Nat.zero_le _, Nat.zero_le _⟩) hS (fun q h => h) (fun H locs f_n hq hS => ?_)
      have f_s := f_n
      have hq_2 := leE_rulesActs hy_2
      refine lv_iadd hx hb dX6_answersActs_54 ?_
      have hE9 : r_answersActs ki nu tv xx ra bo = (v_1 + v_2, r_2, b_2) := (by (try unfold r_answersActs); (repeat rw [if_neg h_1]); (repeat rw [if_pos h_2]); (try rw [hy_0]); (try dsimp only); (try rw [hy_1]); (try dsimp only); (try rw [hy_2]); (try dsimp only); first | done | rfl)
      exact wr_iret hx hb hr hlocks dX6_answersActs_55 hS (by rw [hE9]; exact f_s) (by rw [hE9]; first | done | rfl)
  · have h_1 : (r_isUnder ki 3) = true := h_1
    refine lv_aload_n hx hb dX6_answersActs_11 rfl (lv_at hl 0 rfl) ?_
    refine lv_bipush (v := 31) hx hb dX6_answersActs_12 (by decide +kernel) ?_
    obtain ⟨⟨r_0, b_0⟩, hy_0⟩ : ∃ z9, r_runs ki nu tv 31 ra bo = z9 := ⟨_, rfl⟩
    refine wr_callv (va_runV (As := [.int 31]) (rest := []) hC (c2_X6_runs l G M x ki nu tv 31 ra bo hN (by omega) r_0 b_0 hy_0) (cwV 1 hts gX6_answersActs_X6_runs rfl rfl rfl kd_X6_runs ⟨Nat.le_of_ble_eq_true rfl, Nat.le_of_ble_eq_true rfl⟩) (ro_preV hK f_s.1 rfl f_s) rfl rfl hl.1 rfl (lv_room (Nat.le_of_ble_eq_true rfl)) dX6_answersActs_14 ⟨Nat.zero_le _, Nat.zero_le _⟩) hS (fun q h => h) (fun H locs f_n hq hS => ?_)
    have f_s := f_n
    have hq_0 := leE_runs hy_0
    refine lv_aload_n hx hb dX6_answersActs_17 rfl (lv_at hl 0 rfl) ?_
    refine lv_iload_n hx hb dX6_answersActs_18 rfl (lv_at hl 1 rfl) ?_
    obtain ⟨⟨v_1, r_1, b_1⟩, hy_1⟩ : ∃ z9, r_plainAnswers ki nu tv xx r_0 b_0 = z9 := ⟨_, rfl⟩
    refine wr_call (va_runV (As := [.int xx]) (rest := []) hC (c2_X6_plainAnswers l G M x ki nu tv xx r_0 b_0 hN (by omega) v_1 r_1 b_1 hy_1) (cwV 1 hts gX6_answersActs_X6_plainAnswers rfl rfl rfl kd_X6_plainAnswers ⟨Nat.le_of_ble_eq_true rfl, Nat.le_of_ble_eq_true rfl⟩) (ro_preV hK f_s.1 rfl f_s) rfl rfl hl.1 rfl (lv_room (Nat.le_of_ble_eq_true rfl)) dX6_answersActs_19 ⟨Nat.zero_le _, Nat.zero_le _⟩) hS (fun q h => h) (fun H locs f_n hq hS => ?_)
    have f_s := f_n
    have hq_1 := leE_plainAnswers hy_1
    refine lv_bipush (v := 7) hx hb dX6_answersActs_22 (by decide +kernel) ?_
    refine lv_ixor hx hb dX6_answersActs_24 ?_
    have hE9 : r_answersActs ki nu tv xx ra bo = (v_1 ^^^ 7, r_1, b_1) := (by (try unfold r_answersActs); (repeat rw [if_pos h_1]); (try rw [hy_0]); (try dsimp only); (try rw [hy_1]); (try dsimp only); first | done | rfl)
    exact wr_iret hx hb hr hlocks dX6_answersActs_25 hS (by rw [hE9]; exact f_s) (by rw [hE9]; first | done | rfl)
theorem c2_X6_answersActs (l : Launch) (G : GG) (M : Nat → Nat) (x : MT) (ki nu tv : Int32) (xx : Int32) (ra : Nat) (bo : Nat → Int32)  (hN : mN M) (hra : ra + 9 ≤ 100) (r9 : Int32) (ra9 : Nat) (bo9 : Nat → Int32) (hy9 : r_answersActs ki nu tv xx ra bo = (r9, ra9, bo9)) : Met l yX6_answersActs wsX6_answersActs { frames := 7, cells := 0, slots := 0, locals := 147 } (roP G [.ref (M 0), .int xx] (fun H => AAt G M x ki nu tv (nI ra) bo H)) (wrQ (some (.int r9)) (fun H => AAt G M x ki nu tv (nI ra9) bo9 H) (m05 M)) 0 0 (m05 M) := by
  have h9 := c_X6_answersActs l G M x ki nu tv xx ra bo hN hra
  rw [hy9] at h9
  exact h9
theorem leE_answersActs {ki nu tv a v : Int32} {ra r : Nat} {bo f : Nat → Int32} (h : r_answersActs ki nu tv a ra bo = (v, r, f)) : r ≤ ra + 9 := by
  unfold r_answersActs at h
  repeat' split at h
  all_goals ((try have z0 := leE_runs ‹r_runs _ _ _ _ _ _ = _›); (try have z1 := leE_plainAnswers ‹r_plainAnswers _ _ _ _ _ _ = _›); (try have z2 := leE_rulesActs ‹r_rulesActs _ _ _ _ _ _ = _›); cases h; omega)
theorem i_X6_act_X6 : ∀ w ∈ wsX60, w ∈ wsX6_act := fun _ h => List.mem_cons_of_mem _ (List.mem_append_right _ h)
theorem k_X6_act_fieldLink_221 : Cond.fieldLink RX6 221 "SameWaterModel" "ran" "I" ∈ wsX6_act := by decide +kernel
theorem k_X6_act_fieldLink_9 : Cond.fieldLink RX6 9 "SameWaterModel" "s" "[I" ∈ wsX6_act := by decide +kernel
theorem k_X6_act_fieldLink_230 : Cond.fieldLink RX6 230 "SameWaterModel" "kind" "I" ∈ wsX6_act := by decide +kernel
theorem k_X6_act_fieldLink_227 : Cond.fieldLink RX6 227 "SameWaterModel" "number" "I" ∈ wsX6_act := by decide +kernel
theorem k_X6_act_fieldLink_242 : Cond.fieldLink RX6 242 "SameWaterModel" "tellsV" "I" ∈ wsX6_act := by decide +kernel
theorem kd_X6_answersActs : yX6_answersActs.cls = RX6 ∧ yX6_answersActs.cls ≠ "java/lang/invoke/MethodHandle" ∧ yX6_answersActs.cls ≠ "java/lang/invoke/VarHandle" ∧ (parseMethodDescriptor yX6_answersActs.desc).map (fun d => d.parameters.length) = some 1 := by decide +kernel
def r_act (x : MT) (law what xx : Int32) : Int32 × Int32 × Int32 × Int32 × Int32 × (Nat → Int32) := if (r_isLaw x law) = true then if (r_in what 0 2) = true then if what = 0 then (match r_rulesActs ((mS x) (482 + law).toNatClampNeg) law ((mS x) (490 + law).toNatClampNeg) xx 0 (mBo x) with | (v_0, r_0, b_0) => (v_0, (mS x) (482 + law).toNatClampNeg, law, (mS x) (490 + law).toNatClampNeg, nI r_0, b_0)) else if what = 1 then (match r_readsActs ((mS x) (482 + law).toNatClampNeg) law ((mS x) (490 + law).toNatClampNeg) xx 0 (mBo x) with | (v_0, r_0, b_0) => (v_0, (mS x) (482 + law).toNatClampNeg, law, (mS x) (490 + law).toNatClampNeg, nI r_0, b_0)) else (match r_answersActs ((mS x) (482 + law).toNatClampNeg) law ((mS x) (490 + law).toNatClampNeg) xx 0 (mBo x) with | (v_0, r_0, b_0) => (v_0, (mS x) (482 + law).toNatClampNeg, law, (mS x) (490 + law).toNatClampNeg, nI r_0, b_0)) else (0, mKi x, mNu x, mTv x, 0, mBo x) else (0, mKi x, mNu x, mTv x, 0, mBo x)
set_option maxHeartbeats 300000 in
set_option maxRecDepth 100000 in
theorem c_X6_act (l : Launch) (G : GG) (M : Nat → Nat) (x : MT) (law what xx : Int32)  (hI : mI (mS x)) (hO : mO (mS x)) (hN : mN M) : Met l yX6_act wsX6_act { frames := 8, cells := 0, slots := 0, locals := 169 } (roP G [.ref (M 0), .int law, .int what, .int xx] (fun H => MAt G M x H)) (wrQ (some (.int ((r_act x law what xx).1))) (fun H => AAt G M x ((r_act x law what xx).2.1) ((r_act x law what xx).2.2.1) ((r_act x law what xx).2.2.2.1) ((r_act x law what xx).2.2.2.2.1) ((r_act x law what xx).2.2.2.2.2) H) (m05 M)) 0 0 (m05 M) := by
  refine Met.ofW (cc := cX6_act) (maxL := 4) (ret := (some .int)) (by decide) rfl ?_
  intro p e s m args below meth c s₁ Bd hml hv
  obtain ⟨rfl, hK, hB⟩ := hv
  have hx := Bd.exec
  have hb := Bd.bytes
  have hr := Bd.returns
  have hts := atoms_spec (ws := wsX6_act) Bd.pre
  have hown : s.vm.findClass RX6 = some m.cls := findClass_of_methodNamed Bd.named
  have hlocks := Bd.notSynchronized
  have hC : CallFix p m c cX6_act 4 s _ wsX6_act RX6 := ⟨hx, hb, hml, hown, hts⟩
  have hl := lv_entry ([.ref (M 0), .int law, .int what, .int xx]) (n := 4) (Nat.le_of_ble_eq_true rfl)
  rw [lg_entry_eq]
  generalize (lg_sl ([.ref (M 0), .int law, .int what, .int xx]) ++ List.replicate (4 - (lg_sl ([.ref (M 0), .int law, .int what, .int xx])).length) Slot.unset).toArray = ls at hl ⊢
  have hl : lv_has ls 4 [(0, .ref (M 0)), (1, .int law), (2, .int what), (3, .int xx)] := hl
  have hS : wS (m05 M) s.heap s.heap [] := wS.rf
  have f_s : AAt G M x (mKi x) (mNu x) (mTv x) (mRa x) (mBo x) s.heap := hB
  have hZ := trivial
  refine lv_aload_n hx hb dX6_act_0 rfl (lv_at hl 0 rfl) ?_
  refine lv_iconst (v := 0) hx hb dX6_act_1 (by decide) ?_
  refine w_put (C := RX6) (T := TX6) (N := 18) hx hb hts i_X6_act_X6 tyX6 tyX6_ok nmX6 hown hK f_s.1 hS (.inl rfl) rfl 14 (by decide) k_X6_act_fieldLink_221 rfl rfl rfl rfl (Nat.le_of_ble_eq_true rfl) dX6_act_2 (fun H locs hn hq hS => ?_)
  have f_s : AAt G M x (mKi x) (mNu x) (mTv x) 0 (mBo x) H := f_s.rest hN hn hq
  refine lv_aload_n hx hb dX6_act_5 rfl (lv_at hl 0 rfl) ?_
  refine lv_iload_n hx hb dX6_act_6 rfl (lv_at hl 1 rfl) ?_
  refine ro_call (va_runV (As := [.int law]) (rest := []) hC (c_X6_isLaw l G M (mAct x (mKi x) (mNu x) (mTv x) 0 (mBo x)) law) (cwV 1 hts gX6_act_X6_isLaw rfl rfl rfl kd_X6_isLaw ⟨Nat.le_of_ble_eq_true rfl, Nat.le_of_ble_eq_true rfl⟩) (ro_preV hK f_s.1 rfl (AAt.to f_s)) rfl rfl hl.1 rfl (lv_room (Nat.le_of_ble_eq_true rfl)) dX6_act_7 ⟨Nat.zero_le _, Nat.zero_le _⟩) ?_
  refine bz_eq (tgt := 22) hx hb dX6_act_10 (by decide) (fun h_1 => ?_) (fun h_1 => ?_)
  · have h_1 : ¬ ((r_isLaw x law) = true) := h_1
    refine lv_iconst (v := 0) hx hb dX6_act_22 (by decide) ?_
    have hE9 : r_act x law what xx = (0, mKi x, mNu x, mTv x, 0, mBo x) := (by (try unfold r_act); (repeat rw [if_neg h_1]); first | done | rfl)
    exact wr_iret hx hb hr hlocks dX6_act_23 hS (by rw [hE9]; exact f_s) (by rw [hE9]; first | done | rfl)
  · have h_1 : (r_isLaw x law) = true := h_1
    refine lv_iload_n hx hb dX6_act_13 rfl (lv_at hl 2 rfl) ?_
    refine lv_iconst (v := 0) hx hb dX6_act_14 (by decide) ?_
    refine lv_iconst (v := 2) hx hb dX6_act_15 (by decide) ?_
    refine ro_call (va_runS (As := [.int what, .int 0, .int 2]) (rest := []) hC (c_X6_in l G what 0 2) (va_cwS 3 hts gX6_act_X6_in rfl rfl rfl kd_X6_in ⟨Nat.le_of_ble_eq_true rfl, Nat.le_of_ble_eq_true rfl⟩) (ro_preS hK trivial) rfl rfl hl.1 rfl (lv_room (Nat.le_of_ble_eq_true rfl)) dX6_act_16 ⟨Nat.zero_le _, Nat.zero_le _⟩) ?_
    refine bz_ne (tgt := 24) hx hb dX6_act_19 (by decide) (fun h_2 => ?_) (fun h_2 => ?_)
    · have h_2 : (r_in what 0 2) = true := h_2
      refine lv_aload_n hx hb dX6_act_24 rfl (lv_at hl 0 rfl) ?_
      refine lv_aload_n hx hb dX6_act_25 rfl (lv_at hl 0 rfl) ?_
      refine r_get (C := RX6) (T := TX6) (N := 18) hx hb hts i_X6_act_X6 hown hK f_s.1 rfl 1 (by decide) k_X6_act_fieldLink_9 rfl rfl dX6_act_26 ?_
      refine lv_sipush (v := 482) hx hb dX6_act_29 (by decide +kernel) ?_
      refine lv_iload_n hx hb dX6_act_32 rfl (lv_at hl 1 rfl) ?_
      refine lv_iadd hx hb dX6_act_33 ?_
      refine r_iald hx hb hK f_s.2.1 (vp_ib (lo := 482) (hi := 489) (ib_add (ib_nI (n := 482) (by decide)) (isLaw_ib hI h_1) (by decide) (by decide)) (by decide) (by decide)) dX6_act_34 ?_
      refine w_put (C := RX6) (T := TX6) (N := 18) hx hb hts i_X6_act_X6 tyX6 tyX6_ok nmX6 hown hK f_s.1 hS (.inl rfl) rfl 15 (by decide) k_X6_act_fieldLink_230 rfl rfl rfl rfl (Nat.le_of_ble_eq_true rfl) dX6_act_35 (fun H locs hn hq hS => ?_)
      have f_s : AAt G M x ((mS x) (482 + law).toNatClampNeg) (mNu x) (mTv x) 0 (mBo x) H := f_s.rest hN hn hq
      refine lv_aload_n hx hb dX6_act_38 rfl (lv_at hl 0 rfl) ?_
      refine lv_iload_n hx hb dX6_act_39 rfl (lv_at hl 1 rfl) ?_
      refine w_put (C := RX6) (T := TX6) (N := 18) hx hb hts i_X6_act_X6 tyX6 tyX6_ok nmX6 hown hK f_s.1 hS (.inl rfl) rfl 16 (by decide) k_X6_act_fieldLink_227 rfl rfl rfl rfl (Nat.le_of_ble_eq_true rfl) dX6_act_40 (fun H locs hn hq hS => ?_)
      have f_s : AAt G M x ((mS x) (482 + law).toNatClampNeg) law (mTv x) 0 (mBo x) H := f_s.rest hN hn hq
      refine lv_aload_n hx hb dX6_act_43 rfl (lv_at hl 0 rfl) ?_
      refine lv_aload_n hx hb dX6_act_44 rfl (lv_at hl 0 rfl) ?_
      refine r_get (C := RX6) (T := TX6) (N := 18) hx hb hts i_X6_act_X6 hown hK f_s.1 rfl 1 (by decide) k_X6_act_fieldLink_9 rfl rfl dX6_act_45 ?_
      refine lv_sipush (v := 490) hx hb dX6_act_48 (by decide +kernel) ?_
      refine lv_iload_n hx hb dX6_act_51 rfl (lv_at hl 1 rfl) ?_
      refine lv_iadd hx hb dX6_act_52 ?_
      refine r_iald hx hb hK f_s.2.1 (vp_ib (lo := 490) (hi := 497) (ib_add (ib_nI (n := 490) (by decide)) (isLaw_ib hI h_1) (by decide) (by decide)) (by decide) (by decide)) dX6_act_53 ?_
      refine w_put (C := RX6) (T := TX6) (N := 18) hx hb hts i_X6_act_X6 tyX6 tyX6_ok nmX6 hown hK f_s.1 hS (.inl rfl) rfl 17 (by decide) k_X6_act_fieldLink_242 rfl rfl rfl rfl (Nat.le_of_ble_eq_true rfl) dX6_act_54 (fun H locs hn hq hS => ?_)
      have f_s : AAt G M x ((mS x) (482 + law).toNatClampNeg) law ((mS x) (490 + law).toNatClampNeg) 0 (mBo x) H := f_s.rest hN hn hq
      refine lv_iload_n hx hb dX6_act_57 rfl (lv_at hl 2 rfl) ?_
      refine lv_if_ne (tgt := 69) hx hb dX6_act_58 (by decide) (fun h_3 => ?_) (fun h_3 => ?_)
      · have h_3 : ¬ (what = 0) := h_3
        refine lv_iload_n hx hb dX6_act_69 rfl (lv_at hl 2 rfl) ?_
        refine lv_iconst (v := 1) hx hb dX6_act_70 (by decide) ?_
        refine lv_icmp_ne (tgt := 82) hx hb dX6_act_71 (by decide) (fun h_4 => ?_) (fun h_4 => ?_)
        · have h_4 : ¬ (what = 1) := h_4
          refine lv_aload_n hx hb dX6_act_82 rfl (lv_at hl 0 rfl) ?_
          refine lv_iload_n hx hb dX6_act_83 rfl (lv_at hl 3 rfl) ?_
          obtain ⟨⟨v_0, r_0, b_0⟩, hy_0⟩ : ∃ z9, r_answersActs ((mS x) (482 + law).toNatClampNeg) law ((mS x) (490 + law).toNatClampNeg) xx 0 (mBo x) = z9 := ⟨_, rfl⟩
          refine wr_call (va_runV (As := [.int xx]) (rest := []) hC (c2_X6_answersActs l G M x ((mS x) (482 + law).toNatClampNeg) law ((mS x) (490 + law).toNatClampNeg) xx 0 (mBo x) hN (by omega) v_0 r_0 b_0 hy_0) (cwV 1 hts gX6_act_X6_answersActs rfl rfl rfl kd_X6_answersActs ⟨Nat.le_of_ble_eq_true rfl, Nat.le_of_ble_eq_true rfl⟩) (ro_preV hK f_s.1 rfl f_s) rfl rfl hl.1 rfl (lv_room (Nat.le_of_ble_eq_true rfl)) dX6_act_84 ⟨Nat.zero_le _, Nat.zero_le _⟩) hS (fun q h => h) (fun H locs f_n hq hS => ?_)
          have f_s := f_n
          have hE9 : r_act x law what xx = (v_0, (mS x) (482 + law).toNatClampNeg, law, (mS x) (490 + law).toNatClampNeg, nI r_0, b_0) := (by (try unfold r_act); (repeat rw [if_pos h_1]); (repeat rw [if_pos h_2]); (repeat rw [if_neg h_3]); (repeat rw [if_neg h_4]); (try rw [hy_0]); (try dsimp only); first | done | rfl)
          exact wr_iret hx hb hr hlocks dX6_act_87 hS (by rw [hE9]; exact f_s) (by rw [hE9]; first | done | rfl)
        · have h_4 : what = 1 := h_4
          refine lv_aload_n hx hb dX6_act_74 rfl (lv_at hl 0 rfl) ?_
          refine lv_iload_n hx hb dX6_act_75 rfl (lv_at hl 3 rfl) ?_
          obtain ⟨⟨v_0, r_0, b_0⟩, hy_0⟩ : ∃ z9, r_readsActs ((mS x) (482 + law).toNatClampNeg) law ((mS x) (490 + law).toNatClampNeg) xx 0 (mBo x) = z9 := ⟨_, rfl⟩
          refine wr_call (va_runV (As := [.int xx]) (rest := []) hC (c2_X6_readsActs l G M x ((mS x) (482 + law).toNatClampNeg) law ((mS x) (490 + law).toNatClampNeg) xx 0 (mBo x) hN (by omega) v_0 r_0 b_0 hy_0) (cwV 1 hts gX6_act_X6_readsActs rfl rfl rfl kd_X6_readsActs ⟨Nat.le_of_ble_eq_true rfl, Nat.le_of_ble_eq_true rfl⟩) (ro_preV hK f_s.1 rfl f_s) rfl rfl hl.1 rfl (lv_room (Nat.le_of_ble_eq_true rfl)) dX6_act_76 ⟨Nat.zero_le _, Nat.zero_le _⟩) hS (fun q h => h) (fun H locs f_n hq hS => ?_)
          have f_s := f_n
          refine lv_goto (tgt := 87) hx hb dX6_act_79 (by decide) ?_
          have hE9 : r_act x law what xx = (v_0, (mS x) (482 + law).toNatClampNeg, law, (mS x) (490 + law).toNatClampNeg, nI r_0, b_0) := (by (try unfold r_act); (repeat rw [if_pos h_1]); (repeat rw [if_pos h_2]); (repeat rw [if_neg h_3]); (repeat rw [if_pos h_4]); (try rw [hy_0]); (try dsimp only); first | done | rfl)
          exact wr_iret hx hb hr hlocks dX6_act_87 hS (by rw [hE9]; exact f_s) (by rw [hE9]; first | done | rfl)
      · have h_3 : what = 0 := h_3
        refine lv_aload_n hx hb dX6_act_61 rfl (lv_at hl 0 rfl) ?_
        refine lv_iload_n hx hb dX6_act_62 rfl (lv_at hl 3 rfl) ?_
        obtain ⟨⟨v_0, r_0, b_0⟩, hy_0⟩ : ∃ z9, r_rulesActs ((mS x) (482 + law).toNatClampNeg) law ((mS x) (490 + law).toNatClampNeg) xx 0 (mBo x) = z9 := ⟨_, rfl⟩
        refine wr_call (va_runV (As := [.int xx]) (rest := []) hC (c2_X6_rulesActs l G M x ((mS x) (482 + law).toNatClampNeg) law ((mS x) (490 + law).toNatClampNeg) xx 0 (mBo x) hN (by omega) v_0 r_0 b_0 hy_0) (cwV 1 hts gX6_act_X6_rulesActs rfl rfl rfl kd_X6_rulesActs ⟨Nat.le_of_ble_eq_true rfl, Nat.le_of_ble_eq_true rfl⟩) (ro_preV hK f_s.1 rfl f_s) rfl rfl hl.1 rfl (lv_room (Nat.le_of_ble_eq_true rfl)) dX6_act_63 ⟨Nat.zero_le _, Nat.zero_le _⟩) hS (fun q h => h) (fun H locs f_n hq hS => ?_)
        have f_s := f_n
        refine lv_goto (tgt := 87) hx hb dX6_act_66 (by decide) ?_
        have hE9 : r_act x law what xx = (v_0, (mS x) (482 + law).toNatClampNeg, law, (mS x) (490 + law).toNatClampNeg, nI r_0, b_0) := (by (try unfold r_act); (repeat rw [if_pos h_1]); (repeat rw [if_pos h_2]); (repeat rw [if_pos h_3]); (try rw [hy_0]); (try dsimp only); first | done | rfl)
        exact wr_iret hx hb hr hlocks dX6_act_87 hS (by rw [hE9]; exact f_s) (by rw [hE9]; first | done | rfl)
    · have h_2 : ¬ ((r_in what 0 2) = true) := h_2
      refine lv_iconst (v := 0) hx hb dX6_act_22 (by decide) ?_
      have hE9 : r_act x law what xx = (0, mKi x, mNu x, mTv x, 0, mBo x) := (by (try unfold r_act); (repeat rw [if_pos h_1]); (repeat rw [if_neg h_2]); first | done | rfl)
      exact wr_iret hx hb hr hlocks dX6_act_23 hS (by rw [hE9]; exact f_s) (by rw [hE9]; first | done | rfl)
theorem c2_X6_act (l : Launch) (G : GG) (M : Nat → Nat) (x : MT) (law what xx : Int32)  (hI : mI (mS x)) (hO : mO (mS x)) (hN : mN M) (r9 : Int32) (ki9 : Int32) (nu9 : Int32) (tv9 : Int32) (ra9 : Int32) (bo9 : Nat → Int32) (hy9 : r_act x law what xx = (r9, ki9, nu9, tv9, ra9, bo9)) : Met l yX6_act wsX6_act { frames := 8, cells := 0, slots := 0, locals := 169 } (roP G [.ref (M 0), .int law, .int what, .int xx] (fun H => MAt G M x H)) (wrQ (some (.int r9)) (fun H => AAt G M x ki9 nu9 tv9 ra9 bo9 H) (m05 M)) 0 0 (m05 M) := by
  have h9 := c_X6_act l G M x law what xx hI hO hN
  rw [hy9] at h9
  exact h9

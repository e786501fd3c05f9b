theorem bod_in : ∀ i : Fin 7, ∀ j : Fin 3, ¬ (nI i.val * 3 + nI j.val < 0 ∨ 21 ≤ (nI i.val * 3 + nI j.val).toNatClampNeg) := by decide
theorem bodIx {k a : Int32} (h : f_isKind k = true) (h1 : ¬ a < 0) (h2 : ¬ 3 ≤ a) : vp_in (k * 3 + a) 21 := by
  have e1 := vp_lt (isKind_in h)
  have e0 : ¬ k < 0 := fun q => (isKind_in h) (Or.inl q)
  have e2 : a.toNatClampNeg ≤ 2 := clamp_le (n := 2) (by
    have h3 : a.toInt < 3 := by simpa using Int32.lt_iff_toInt_lt.mp (Int32.not_le.mp h2)
    exact Int32.le_iff_toInt_le.mpr (by show a.toInt ≤ 2; omega)) (by decide)
  have q := bod_in ⟨k.toNatClampNeg, e1⟩ ⟨a.toNatClampNeg, by omega⟩
  rw [nI_back e0, nI_back h1] at q
  exact q
theorem k_X0_holderOf_nini_48 : Cond.initialized RX5 ∈ wsX0_holderOf := by decide +kernel
theorem k_X0_holderOf_nsta_48 : Cond.static yX5_isKind ∈ wsX0_holderOf := by decide +kernel
def f_holdGo (act9 : Int32) : Nat → Nat → Int32 → Int32
  | 0, _, _ => (-1)
  | n + 1, k, at9 => if (f_isKind at9) = true then if act9 < 0 then (-1) else if 3 ≤ act9 then (-1) else if (tBod ((at9 * 3) + act9).toNatClampNeg) = 0 then f_holdGo act9 n (k + 1) (tAbv (at9).toNatClampNeg) else at9 else (-1)
theorem f_holdGo_0 (act9 : Int32) (k : Nat) (at9 : Int32) : f_holdGo act9 0 k at9 = ((-1)) := rfl
theorem f_holdGo_s (act9 : Int32) (n k : Nat) (at9 : Int32) : f_holdGo act9 (n + 1) k at9 = (if (f_isKind at9) = true then if act9 < 0 then (-1) else if 3 ≤ act9 then (-1) else if (tBod ((at9 * 3) + act9).toNatClampNeg) = 0 then f_holdGo act9 n (k + 1) (tAbv (at9).toNatClampNeg) else at9 else (-1)) := rfl
def f_holder (kind act9 : Int32) : Int32 := f_holdGo act9 7 0 kind
set_option maxHeartbeats 4000000 in
set_option maxRecDepth 100000 in
theorem c_X0_holderOf (l : Launch) (G : GG) (Z : AM) (kind act9 : Int32)  : Met l yX0_holderOf wsX0_holderOf { frames := 1, cells := 0, slots := 0, locals := 20 } (aP G Z [.int kind, .int act9] (fun H => True)) (roQ (some (.int (f_holder kind act9)))) 0 0 nF := by
  refine Met.ofW (cc := cX0_holderOf) (maxL := 4) (ret := (some .int)) (by decide) rfl ?_
  intro p e s m args below meth c s₁ Bd hml hv
  obtain ⟨rfl, hK, hZ, hB⟩ := hv
  have hx := Bd.exec
  have hb := Bd.bytes
  have hr := Bd.returns
  have hts := atoms_spec (ws := wsX0_holderOf) Bd.pre
  have hown : s.vm.findClass RX0 = some m.cls := findClass_of_methodNamed Bd.named
  have hlocks := Bd.notSynchronized
  have hC : CallFix p m c cX0_holderOf 4 s _ wsX0_holderOf RX0 := ⟨hx, hb, hml, hown, hts⟩
  have hl := lv_entry ([.int kind, .int act9]) (n := 4) (Nat.le_of_ble_eq_true rfl)
  rw [lg_entry_eq]
  generalize (lg_sl ([.int kind, .int act9]) ++ List.replicate (4 - (lg_sl ([.int kind, .int act9])).length) Slot.unset).toArray = ls at hl ⊢
  have hl : lv_has ls 4 [(0, .int kind), (1, .int act9)] := hl
  refine lv_iload_n hx hb dX0_holderOf_0 rfl (lv_at hl 0 rfl) ?_
  refine lv_istore_n (lv' := [(2, .int kind), (0, .int kind), (1, .int act9)]) hx hb dX0_holderOf_1 rfl hl (by decide) rfl (fun ls hl => ?_)
  refine lv_iconst (v := 0) hx hb dX0_holderOf_2 (by decide) ?_
  refine lv_istore_n (lv' := [(3, .int 0), (2, .int kind), (0, .int kind), (1, .int act9)]) hx hb dX0_holderOf_3 rfl hl (by decide) rfl (fun ls hl => ?_)
  refine loop_at (nL := 4) (α := Nat × Int32) (fun a9 => [(0, .int kind), (1, .int act9), (2, .int (a9.2)), (3, .int (nI (a9.1)))]) (fun a9 => a9.1 ≤ 7 ∧ f_holdGo act9 (7 - a9.1) a9.1 a9.2 = f_holdGo act9 7 0 kind) (fun a9 => 7 - a9.1) (0, kind) ⟨(by first | exact Nat.zero_le _ | decide | omega), rfl⟩ (lv_sub hl [2, 3, 1, 0] rfl) (fun a9 hI9 ih_k ls hl => ?_)
  obtain ⟨k, at9⟩ := a9
  obtain ⟨hk_k, hV⟩ : k ≤ 7 ∧ f_holdGo act9 (7 - k) k at9 = f_holdGo act9 7 0 kind := hI9
  have hl : lv_has ls 4 [(0, .int kind), (1, .int act9), (2, .int at9), (3, .int (nI k))] := hl
  refine lv_iload_n hx hb dX0_holderOf_4 rfl (lv_at hl 3 rfl) ?_
  refine lv_bipush (v := 7) hx hb dX0_holderOf_5 (by decide +kernel) ?_
  refine lv_icmp_ge (tgt := 52) hx hb dX0_holderOf_7 (by decide) (fun h_1 => ?_) (fun h_1 => ?_)
  · have hN_k : k = 7 := ge_ex (N := 7) rfl h_1 hk_k (by omega)
    subst hN_k
    rw [Nat.sub_self] at hV
    refine lv_iconst (v := (-1)) hx hb dX0_holderOf_52 (by decide) ?_
    exact ro_iret hx hb hr hlocks dX0_holderOf_53 (by (try unfold f_holder); rw [← hV, f_holdGo_0]; first | done | rfl)
  · have hlt_k : k < 7 := ge_in (N := 7) rfl h_1 hk_k (by omega)
    obtain ⟨n9, hn9⟩ : ∃ n9, 7 - k = n9 + 1 := ⟨7 - k - 1, by omega⟩
    rw [hn9] at hV
    refine lv_iload_n hx hb dX0_holderOf_10 rfl (lv_at hl 2 rfl) ?_
    refine ro_call (va_runSN (As := [.int at9]) (rest := []) hC (c_X5_isKind l G at9) ⟨va_cnB 1 hts gX0_holderOf_X5_isKind_n48 rfl rfl rfl (hK.2 _ (List.mem_of_getElem? (i := 3) rfl)) (hts _ k_X0_holderOf_nini_48) kd_X5_isKind ⟨Nat.le_of_ble_eq_true rfl, Nat.le_of_ble_eq_true rfl⟩, hts _ k_X0_holderOf_nsta_48, trivial⟩ (ro_preS hK trivial) rfl rfl hl.1 rfl (lv_room (Nat.le_of_ble_eq_true rfl)) dX0_holderOf_11 ⟨Nat.zero_le _, Nat.zero_le _⟩) ?_
    refine bz_eq (tgt := 52) hx hb dX0_holderOf_14 (by decide) (fun h_2 => ?_) (fun h_2 => ?_)
    · refine lv_iconst (v := (-1)) hx hb dX0_holderOf_52 (by decide) ?_
      exact ro_iret hx hb hr hlocks dX0_holderOf_53 (by (try unfold f_holder); rw [← hV, f_holdGo_s]; (repeat rw [if_neg h_1]); (repeat rw [if_neg h_2]); first | done | rfl)
    · refine lv_iload_n hx hb dX0_holderOf_17 rfl (lv_at hl 1 rfl) ?_
      refine lv_if_lt (tgt := 52) hx hb dX0_holderOf_18 (by decide) (fun h_3 => ?_) (fun h_3 => ?_)
      · refine lv_iconst (v := (-1)) hx hb dX0_holderOf_52 (by decide) ?_
        exact ro_iret hx hb hr hlocks dX0_holderOf_53 (by (try unfold f_holder); rw [← hV, f_holdGo_s]; (repeat rw [if_neg h_1]); (repeat rw [if_pos h_2]); (repeat rw [if_pos h_3]); first | done | rfl)
      · refine lv_iload_n hx hb dX0_holderOf_21 rfl (lv_at hl 1 rfl) ?_
        refine lv_iconst (v := 3) hx hb dX0_holderOf_22 (by decide) ?_
        refine lv_icmp_ge (tgt := 52) hx hb dX0_holderOf_23 (by decide) (fun h_4 => ?_) (fun h_4 => ?_)
        · refine lv_iconst (v := (-1)) hx hb dX0_holderOf_52 (by decide) ?_
          exact ro_iret hx hb hr hlocks dX0_holderOf_53 (by (try unfold f_holder); rw [← hV, f_holdGo_s]; (repeat rw [if_neg h_1]); (repeat rw [if_pos h_2]); (repeat rw [if_neg h_3]); (repeat rw [if_pos h_4]); first | done | rfl)
        · refine a_getsN hx hb hZ.2.2.2.2.1.1 hown (hK.2 _ (List.mem_of_getElem? (i := 1) rfl)) dX0_holderOf_26 ?_
          refine lv_iload_n hx hb dX0_holderOf_29 rfl (lv_at hl 2 rfl) ?_
          refine lv_iconst (v := 3) hx hb dX0_holderOf_30 (by decide) ?_
          refine lv_imul hx hb dX0_holderOf_31 ?_
          refine lv_iload_n hx hb dX0_holderOf_32 rfl (lv_at hl 1 rfl) ?_
          refine lv_iadd hx hb dX0_holderOf_33 ?_
          refine a_iald hx hb hZ.2.2.2.2.1.2 (bodIx h_2 h_3 h_4) dX0_holderOf_34 ?_
          refine lv_if_eq (tgt := 40) hx hb dX0_holderOf_35 (by decide) (fun h_5 => ?_) (fun h_5 => ?_)
          · refine a_getsN hx hb hZ.2.2.2.1.1 hown (hK.2 _ (List.mem_of_getElem? (i := 0) rfl)) dX0_holderOf_40 ?_
            refine lv_iload_n hx hb dX0_holderOf_43 rfl (lv_at hl 2 rfl) ?_
            refine a_iald hx hb hZ.2.2.2.1.2 (isKind_in h_2) dX0_holderOf_44 ?_
            refine lv_istore_n (lv' := [(2, .int (tAbv (at9).toNatClampNeg)), (0, .int kind), (1, .int act9), (3, .int (nI k))]) hx hb dX0_holderOf_45 rfl hl (by decide) rfl (fun ls hl => ?_)
            refine lv_iinc (v := (nI k) + 1) (lv' := [(3, .int ((nI k) + 1)), (2, .int (tAbv (at9).toNatClampNeg)), (0, .int kind), (1, .int act9)]) hx hb dX0_holderOf_46 hl (k := 3) rfl rfl (by decide) rfl (fun ls hl => ?_)
            refine lv_goto (tgt := 4) hx hb dX0_holderOf_49 (by decide) ?_
            have hE : f_holdGo act9 n9 (k + 1) (tAbv (at9).toNatClampNeg) = f_holdGo act9 7 0 kind := (by rw [← hV, f_holdGo_s]; (repeat rw [if_pos h_2]); (repeat rw [if_neg h_3]); (repeat rw [if_neg h_4]); (repeat rw [if_pos h_5]); first | done | rfl)
            refine ih_k ((k + 1, tAbv (at9).toNatClampNeg)) ⟨(show k + 1 ≤ 7 by omega), (by show f_holdGo act9 (7 - (k + 1)) (k + 1) (tAbv (at9).toNatClampNeg) = _; rw [show 7 - (k + 1) = n9 by omega]; exact hE)⟩ (show 7 - (k + 1) < 7 - k by omega) ls ?_
            show lv_has ls 4 [(0, .int kind), (1, .int act9), (2, .int (tAbv (at9).toNatClampNeg)), (3, .int (nI (k + 1)))]
            rw [nI_succ]
            exact lv_sub hl [2, 3, 1, 0] rfl
          · refine lv_iload_n hx hb dX0_holderOf_38 rfl (lv_at hl 2 rfl) ?_
            exact ro_iret hx hb hr hlocks dX0_holderOf_39 (by (try unfold f_holder); rw [← hV, f_holdGo_s]; (repeat rw [if_neg h_1]); (repeat rw [if_pos h_2]); (repeat rw [if_neg h_3]); (repeat rw [if_neg h_4]); (repeat rw [if_neg h_5]); first | done | rfl)
theorem hold_ok (act9 : Int32) : ∀ (n k : Nat) (at9 : Int32), ¬ f_holdGo act9 n k at9 < 0 → f_isKind (f_holdGo act9 n k at9) = true ∧ ¬ act9 < 0 ∧ ¬ 3 ≤ act9 := by
  intro n
  induction n with
  | zero => exact fun k at9 h => absurd (show f_holdGo act9 0 k at9 < 0 from by rw [f_holdGo_0]; decide) h
  | succ n ih =>
    intro k at9 h
    have hm : ¬ ¬ ((-1 : Int32) < 0) := by decide
    rw [f_holdGo_s] at h ⊢
    split at h
    · rename_i h1
      rw [if_pos h1]
      split at h
      · exact absurd h hm
      · rename_i h2
        rw [if_neg h2]
        split at h
        · exact absurd h hm
        · rename_i h3
          rw [if_neg h3]
          split at h
          · rename_i h4
            rw [if_pos h4]
            exact ih _ _ h
          · rename_i h4
            rw [if_neg h4]
            exact ⟨h1, h2, h3⟩
    · exact absurd h hm
theorem holder_in {kind act9 : Int32} (h : ¬ f_holder kind act9 < 0) : vp_in (f_holder kind act9) 7 := isKind_in (hold_ok act9 7 0 kind h).1
theorem holderB_in {kind act9 : Int32} (h : ¬ f_holder kind act9 < 0) : vp_in (f_holder kind act9 * 3 + act9) 21 := bodIx (hold_ok act9 7 0 kind h).1 (hold_ok act9 7 0 kind h).2.1 (hold_ok act9 7 0 kind h).2.2
theorem i_X0_begin_X0 : ∀ w ∈ wsX00, w ∈ wsX0_begin := fun _ h => List.mem_cons_of_mem _ (List.mem_append_right _ h)
theorem k_X0_begin_fieldLink_15 : Cond.fieldLink RX0 15 "SameWater$Acts" "ran" "I" ∈ wsX0_begin := by decide +kernel
theorem k_X0_begin_fieldLink_9 : Cond.fieldLink RX0 9 "SameWater$Acts" "bodies" "[I" ∈ wsX0_begin := by decide +kernel
def q_begin (body : Int32) (rn : Nat) (bo : Nat → Int32) : Nat × (Nat → Int32) := if 20 ≤ (nI rn) then ((rn + 1), bo) else ((rn + 1), (upd bo (nI rn).toNatClampNeg body))
set_option maxHeartbeats 4000000 in
set_option maxRecDepth 100000 in
theorem c_X0_begin (l : Launch) (G : GG) (AD ad td : Nat → Nat) (wd wt : WT) (tk : Bool) (rn : Nat) (bo : Nat → Int32) (body : Int32) (hN : cN AD ad td) (hrn : rn + 1 < 2 ^ 31) : Met l yX0_begin wsX0_begin { frames := 0, cells := 0, slots := 0, locals := 0 } (roP G [.ref (AD 1), .int body] (fun H => CAt G AD ad td wd wt tk (nI rn) bo H)) (wrQ none (fun H => CAt G AD ad td wd wt tk (nI ((q_begin body rn bo).1)) ((q_begin body rn bo).2) H) (cA AD ad td)) 0 0 (cA AD ad td) := by
  refine Met.ofW (cc := cX0_begin) (maxL := 2) (ret := none) (by decide) rfl ?_
  intro p e s m args below meth c s₁ Bd hml hv
  obtain ⟨rfl, hK, hB⟩ := hv
  have hx := Bd.exec
  have hb := Bd.bytes
  have hr := Bd.returns
  have hts := atoms_spec (ws := wsX0_begin) Bd.pre
  have hown : s.vm.findClass RX0 = some m.cls := findClass_of_methodNamed Bd.named
  have hlocks := Bd.notSynchronized
  have hC : CallFix p m c cX0_begin 2 s _ wsX0_begin RX0 := ⟨hx, hb, hml, hown, hts⟩
  have hl := lv_entry ([.ref (AD 1), .int body]) (n := 2) (Nat.le_of_ble_eq_true rfl)
  rw [lg_entry_eq]
  generalize (lg_sl ([.ref (AD 1), .int body]) ++ List.replicate (2 - (lg_sl ([.ref (AD 1), .int body])).length) Slot.unset).toArray = ls at hl ⊢
  have hl : lv_has ls 2 [(0, .ref (AD 1)), (1, .int body)] := hl
  have hS : wS (cA AD ad td) s.heap s.heap [] := wS.rf
  have f_s := hB
  have hZ := trivial
  refine lv_aload_n hx hb dX0_begin_0 rfl (lv_at hl 0 rfl) ?_
  refine r_get (C := RX0) (T := TX0) (N := 2) hx hb hts i_X0_begin_X0 hown hK f_s.2.2.2.1 rfl 1 (by decide) k_X0_begin_fieldLink_15 rfl rfl dX0_begin_1 ?_
  refine lv_bipush (v := 20) hx hb dX0_begin_4 (by decide +kernel) ?_
  refine lv_icmp_ge (tgt := 19) hx hb dX0_begin_6 (by decide) (fun h_1 => ?_) (fun h_1 => ?_)
  · refine lv_aload_n hx hb dX0_begin_19 rfl (lv_at hl 0 rfl) ?_
    refine lv_dup hx hb dX0_begin_20 rfl ?_
    refine r_get (C := RX0) (T := TX0) (N := 2) hx hb hts i_X0_begin_X0 hown hK f_s.2.2.2.1 rfl 1 (by decide) k_X0_begin_fieldLink_15 rfl rfl dX0_begin_21 ?_
    refine lv_iconst (v := 1) hx hb dX0_begin_24 (by decide) ?_
    refine lv_iadd hx hb dX0_begin_25 ?_
    refine w_put (C := RX0) (T := TX0) (N := 2) hx hb hts i_X0_begin_X0 tyX0 tyX0_ok nmX0 hown hK f_s.2.2.2.1 hS (Or.inl ⟨1, by decide, rfl⟩) rfl 1 (by decide) k_X0_begin_fieldLink_15 rfl rfl rfl rfl (Nat.le_of_ble_eq_true rfl) dX0_begin_26 (fun H locs hn hq hS => ?_)
    have f_s := (CAt.rest f_s hN (f_s.1.kept (hq _ (hN.2.2.1 0 1 (by decide) (by decide) (by decide)))) (by rw [nI_succ]; exact hn) (f_s.2.2.2.2.kept (hq _ (hN.2.2.1 2 1 (by decide) (by decide) (by decide)))) (fun q h => hq q (fun e => h ⟨1, by decide, e⟩)) : CAt G AD ad td wd wt tk (nI (rn + 1)) bo H)
    have hE9 : q_begin body rn bo = ((rn + 1), bo) := (by (try unfold q_begin); (repeat rw [if_pos h_1]); first | done | rfl)
    exact wr_vret hx hb hr hlocks dX0_begin_29 hS (by rw [hE9]; exact f_s)
  · refine lv_aload_n hx hb dX0_begin_9 rfl (lv_at hl 0 rfl) ?_
    refine r_get (C := RX0) (T := TX0) (N := 2) hx hb hts i_X0_begin_X0 hown hK f_s.2.2.2.1 rfl 0 (by decide) k_X0_begin_fieldLink_9 rfl rfl dX0_begin_10 ?_
    refine lv_aload_n hx hb dX0_begin_13 rfl (lv_at hl 0 rfl) ?_
    refine r_get (C := RX0) (T := TX0) (N := 2) hx hb hts i_X0_begin_X0 hown hK f_s.2.2.2.1 rfl 1 (by decide) k_X0_begin_fieldLink_15 rfl rfl dX0_begin_14 ?_
    refine lv_iload_n hx hb dX0_begin_17 rfl (lv_at hl 1 rfl) ?_
    refine w_iast hx hb hK f_s.2.2.2.2 hS (Or.inl ⟨2, by decide, rfl⟩) (vp_of (n := 20) rfl (nI_pos (by omega)) h_1 (by decide)) dX0_begin_18 (fun H locs hn hq hS => ?_)
    have f_s := (CAt.rest f_s hN (f_s.1.kept (hq _ (hN.2.2.1 0 2 (by decide) (by decide) (by decide)))) (f_s.2.2.2.1.kept (hq _ (hN.2.2.1 1 2 (by decide) (by decide) (by decide)))) hn (fun q h => hq q (fun e => h ⟨2, by decide, e⟩)) : CAt G AD ad td wd wt tk (nI rn) (upd bo (nI rn).toNatClampNeg body) H)
    refine lv_aload_n hx hb dX0_begin_19 rfl (lv_at hl 0 rfl) ?_
    refine lv_dup hx hb dX0_begin_20 rfl ?_
    refine r_get (C := RX0) (T := TX0) (N := 2) hx hb hts i_X0_begin_X0 hown hK f_s.2.2.2.1 rfl 1 (by decide) k_X0_begin_fieldLink_15 rfl rfl dX0_begin_21 ?_
    refine lv_iconst (v := 1) hx hb dX0_begin_24 (by decide) ?_
    refine lv_iadd hx hb dX0_begin_25 ?_
    refine w_put (C := RX0) (T := TX0) (N := 2) hx hb hts i_X0_begin_X0 tyX0 tyX0_ok nmX0 hown hK f_s.2.2.2.1 hS (Or.inl ⟨1, by decide, rfl⟩) rfl 1 (by decide) k_X0_begin_fieldLink_15 rfl rfl rfl rfl (Nat.le_of_ble_eq_true rfl) dX0_begin_26 (fun H locs hn hq hS => ?_)
    have f_s := (CAt.rest f_s hN (f_s.1.kept (hq _ (hN.2.2.1 0 1 (by decide) (by decide) (by decide)))) (by rw [nI_succ]; exact hn) (f_s.2.2.2.2.kept (hq _ (hN.2.2.1 2 1 (by decide) (by decide) (by decide)))) (fun q h => hq q (fun e => h ⟨1, by decide, e⟩)) : CAt G AD ad td wd wt tk (nI (rn + 1)) (upd bo (nI rn).toNatClampNeg body) H)
    have hE9 : q_begin body rn bo = ((rn + 1), (upd bo (nI rn).toNatClampNeg body)) := (by (try unfold q_begin); (repeat rw [if_neg h_1]); first | done | rfl)
    exact wr_vret hx hb hr hlocks dX0_begin_29 hS (by rw [hE9]; exact f_s)
theorem c2_X0_begin (l : Launch) (G : GG) (AD ad td : Nat → Nat) (wd wt : WT) (tk : Bool) (rn : Nat) (bo : Nat → Int32) (body : Int32) (hN : cN AD ad td) (hrn : rn + 1 < 2 ^ 31) (rn9 : Nat) (bo9 : Nat → Int32) (hy9 : q_begin body rn bo = (rn9, bo9)) : Met l yX0_begin wsX0_begin { frames := 0, cells := 0, slots := 0, locals := 0 } (roP G [.ref (AD 1), .int body] (fun H => CAt G AD ad td wd wt tk (nI rn) bo H)) (wrQ none (fun H => CAt G AD ad td wd wt tk (nI rn9) bo9 H) (cA AD ad td)) 0 0 (cA AD ad td) := by
  have h9 := c_X0_begin l G AD ad td wd wt tk rn bo body hN hrn
  rw [hy9] at h9
  exact h9
theorem q_begin_rn (body : Int32) (rn : Nat) (bo : Nat → Int32) : (q_begin body rn bo).1 = rn + 1 := by
  unfold q_begin
  split
  · rfl
  · rfl
theorem c3_X0_begin (l : Launch) (G : GG) (AD ad td : Nat → Nat) (wd wt : WT) (tk : Bool) (rn : Nat) (bo : Nat → Int32) (body : Int32) (hN : cN AD ad td) (hrn : rn + 1 < 2 ^ 31) : Met l yX0_begin wsX0_begin { frames := 0, cells := 0, slots := 0, locals := 0 } (roP G [.ref (AD 1), .int body] (fun H => CAt G AD ad td wd wt tk (nI rn) bo H)) (wrQ none (fun H => CAt G AD ad td wd wt tk (nI (rn + 1)) (q_begin body rn bo).2 H) (cA AD ad td)) 0 0 (cA AD ad td) := by
  have h9 := c_X0_begin l G AD ad td wd wt tk rn bo body hN hrn
  rw [q_begin_rn] at h9
  exact h9
/-- what a run of a body answers, and the trace after it -/
abbrev AF : Type := Int32 → Int32 → Int32 → Nat → (Nat → Int32) → Int32 × (Nat → Int32)
/-- a contract of a run at a depth; K counts the bodies it begins -/
def cAct (l : Launch) (G : GG) (Z : AM) (AD ad td : Nat → Nat) (wd wt : WT) (tk : Bool) (li : Nat) (rm : Room) (dp : Int32) (K : Int32 → Int32 → Nat) (P : AF) : Prop := ∀ (kind act9 xx : Int32) (rn : Nat) (bo : Nat → Int32), rn + K kind act9 < 2 ^ 31 → Met l yX0_run wsX0_run rm (aP G Z [.ref (AD 1), .ref (ad (10 + 5 * li)), .int kind, .int act9, .int xx, .int dp] (fun H => CAt G AD ad td wd wt tk (nI rn) bo H)) (wrQ (some (.int (P kind act9 xx rn bo).1)) (fun H => CAt G AD ad td wd wt tk (nI (rn + K kind act9)) (P kind act9 xx rn bo).2 H) (cA AD ad td)) 0 0 (cA AD ad td)
theorem cAct.at {l : Launch} {G : GG} {Z : AM} {AD ad td : Nat → Nat} {wd wt : WT} {tk : Bool} {li : Nat} {rm : Room} {dp : Int32} {K : Int32 → Int32 → Nat} {P : AF} (h : cAct l G Z AD ad td wd wt tk li rm dp K P) (kind act9 xx : Int32) (rn : Nat) (bo : Nat → Int32) (hr : rn + K kind act9 < 2 ^ 31) (r9 : Int32) (bo9 : Nat → Int32) (hy9 : P kind act9 xx rn bo = (r9, bo9)) : Met l yX0_run wsX0_run rm (aP G Z [.ref (AD 1), .ref (ad (10 + 5 * li)), .int kind, .int act9, .int xx, .int dp] (fun H => CAt G AD ad td wd wt tk (nI rn) bo H)) (wrQ (some (.int r9)) (fun H => CAt G AD ad td wd wt tk (nI (rn + K kind act9)) bo9 H) (cA AD ad td)) 0 0 (cA AD ad td) := by
  have h9 := h kind act9 xx rn bo hr
  rw [hy9] at h9
  exact h9
def k_runS (own : Int32) (K : Int32 → Int32 → Nat) (kind act9 : Int32) : Nat := if (f_holder kind act9) < 0 then 0 else if (tBod (((f_holder kind act9) * 3) + act9).toNatClampNeg) = 1 then 1 else if (tBod (((f_holder kind act9) * 3) + act9).toNatClampNeg) = 2 then 1 + K own 0 else if (tBod (((f_holder kind act9) * 3) + act9).toNatClampNeg) = 3 then 1 + K own 1 else if (tBod (((f_holder kind act9) * 3) + act9).toNatClampNeg) = 11 then 1 + K (tAbv (f_holder kind act9).toNatClampNeg) 0 else if (tBod (((f_holder kind act9) * 3) + act9).toNatClampNeg) = 21 then 1 + K (tAbv (f_holder kind act9).toNatClampNeg) 1 else if (tBod (((f_holder kind act9) * 3) + act9).toNatClampNeg) = 31 then 1 + K (tAbv (f_holder kind act9).toNatClampNeg) 2 else if (tBod (((f_holder kind act9) * 3) + act9).toNatClampNeg) = 41 then 1 + K (tAbv (f_holder kind act9).toNatClampNeg) 2 + K own 0 else if (tBod (((f_holder kind act9) * 3) + act9).toNatClampNeg) = 51 then 1 + K (tAbv (f_holder kind act9).toNatClampNeg) 0 else if (tBod (((f_holder kind act9) * 3) + act9).toNatClampNeg) = 61 then 1 + K (tAbv (f_holder kind act9).toNatClampNeg) 1 else 1
theorem k_pos9 {K : Int32 → Int32 → Nat} {own kind act9 : Int32} : 1 ≤ (if (tBod (((f_holder kind act9) * 3) + act9).toNatClampNeg) = 1 then 1 else if (tBod (((f_holder kind act9) * 3) + act9).toNatClampNeg) = 2 then 1 + K own 0 else if (tBod (((f_holder kind act9) * 3) + act9).toNatClampNeg) = 3 then 1 + K own 1 else if (tBod (((f_holder kind act9) * 3) + act9).toNatClampNeg) = 11 then 1 + K (tAbv (f_holder kind act9).toNatClampNeg) 0 else if (tBod (((f_holder kind act9) * 3) + act9).toNatClampNeg) = 21 then 1 + K (tAbv (f_holder kind act9).toNatClampNeg) 1 else if (tBod (((f_holder kind act9) * 3) + act9).toNatClampNeg) = 31 then 1 + K (tAbv (f_holder kind act9).toNatClampNeg) 2 else if (tBod (((f_holder kind act9) * 3) + act9).toNatClampNeg) = 41 then 1 + K (tAbv (f_holder kind act9).toNatClampNeg) 2 + K own 0 else if (tBod (((f_holder kind act9) * 3) + act9).toNatClampNeg) = 51 then 1 + K (tAbv (f_holder kind act9).toNatClampNeg) 0 else if (tBod (((f_holder kind act9) * 3) + act9).toNatClampNeg) = 61 then 1 + K (tAbv (f_holder kind act9).toNatClampNeg) 1 else 1) := by
  repeat' split
  all_goals omega
theorem i_X0_run_X1 : ∀ w ∈ wsX10, w ∈ wsX0_run := fun _ h => List.mem_cons_of_mem _ (List.mem_append_left _ (List.mem_append_right _ h))
theorem k_X0_run_fieldLink_23 : Cond.fieldLink RX0 23 "SameWater$Law" "kind" "I" ∈ wsX0_run := by decide +kernel
theorem k_X0_run_fieldLink_38 : Cond.fieldLink RX0 38 "SameWater$Law" "number" "I" ∈ wsX0_run := by decide +kernel
theorem k_X0_run_fieldLink_45 : Cond.fieldLink RX0 45 "SameWater$Law" "v" "I" ∈ wsX0_run := by decide +kernel
theorem kd_X0_holderOf : yX0_holderOf.cls ≠ "java/lang/invoke/MethodHandle" ∧ yX0_holderOf.cls ≠ "java/lang/invoke/VarHandle" ∧ (parseMethodDescriptor yX0_holderOf.desc).map (fun d => d.parameters.length) = some 2 := by decide +kernel
theorem kd_X0_begin : yX0_begin.cls = RX0 ∧ yX0_begin.cls ≠ "java/lang/invoke/MethodHandle" ∧ yX0_begin.cls ≠ "java/lang/invoke/VarHandle" ∧ (parseMethodDescriptor yX0_begin.desc).map (fun d => d.parameters.length) = some 1 := by decide +kernel
theorem kd_X0_run : yX0_run.cls = RX0 ∧ yX0_run.cls ≠ "java/lang/invoke/MethodHandle" ∧ yX0_run.cls ≠ "java/lang/invoke/VarHandle" ∧ (parseMethodDescriptor yX0_run.desc).map (fun d => d.parameters.length) = some 5 := by decide +kernel
def q_runS (wd : WT) (li : Nat) (K : Int32 → Int32 → Nat) (P : AF) (kind act9 xx : Int32) (rn : Nat) (bo : Nat → Int32) : Int32 × Nat × (Nat → Int32) := if (f_holder kind act9) < 0 then (0, rn, bo) else if (tBod (((f_holder kind act9) * 3) + act9).toNatClampNeg) = 1 then (xx + (lNum (wLw wd li)), (rn + 1), (q_begin (tBod (((f_holder kind act9) * 3) + act9).toNatClampNeg) rn bo).2) else if (tBod (((f_holder kind act9) * 3) + act9).toNatClampNeg) = 2 then (match P (lKind (wLw wd li)) 0 xx (rn + 1) ((q_begin (tBod (((f_holder kind act9) * 3) + act9).toNatClampNeg) rn bo).2) with | (r_0, bo_0) => (r_0 - (lV (wLw wd li)), ((rn + 1) + K (lKind (wLw wd li)) 0), bo_0)) else if (tBod (((f_holder kind act9) * 3) + act9).toNatClampNeg) = 3 then (match P (lKind (wLw wd li)) 1 xx (rn + 1) ((q_begin (tBod (((f_holder kind act9) * 3) + act9).toNatClampNeg) rn bo).2) with | (r_0, bo_0) => (r_0 * 2, ((rn + 1) + K (lKind (wLw wd li)) 1), bo_0)) else if (tBod (((f_holder kind act9) * 3) + act9).toNatClampNeg) = 11 then (match P (tAbv (f_holder kind act9).toNatClampNeg) 0 (xx * 3) (rn + 1) ((q_begin (tBod (((f_holder kind act9) * 3) + act9).toNatClampNeg) rn bo).2) with | (r_0, bo_0) => (r_0, ((rn + 1) + K (tAbv (f_holder kind act9).toNatClampNeg) 0), bo_0)) else if (tBod (((f_holder kind act9) * 3) + act9).toNatClampNeg) = 21 then (match P (tAbv (f_holder kind act9).toNatClampNeg) 1 xx (rn + 1) ((q_begin (tBod (((f_holder kind act9) * 3) + act9).toNatClampNeg) rn bo).2) with | (r_0, bo_0) => (-r_0, ((rn + 1) + K (tAbv (f_holder kind act9).toNatClampNeg) 1), bo_0)) else if (tBod (((f_holder kind act9) * 3) + act9).toNatClampNeg) = 31 then (match P (tAbv (f_holder kind act9).toNatClampNeg) 2 xx (rn + 1) ((q_begin (tBod (((f_holder kind act9) * 3) + act9).toNatClampNeg) rn bo).2) with | (r_0, bo_0) => (r_0 ^^^ 7, ((rn + 1) + K (tAbv (f_holder kind act9).toNatClampNeg) 2), bo_0)) else if (tBod (((f_holder kind act9) * 3) + act9).toNatClampNeg) = 41 then (match P (tAbv (f_holder kind act9).toNatClampNeg) 2 (xx - 1) (rn + 1) ((q_begin (tBod (((f_holder kind act9) * 3) + act9).toNatClampNeg) rn bo).2) with | (r_0, bo_0) => (match P (lKind (wLw wd li)) 0 2 ((rn + 1) + K (tAbv (f_holder kind act9).toNatClampNeg) 2) bo_0 with | (r_1, bo_1) => (r_0 + r_1, (((rn + 1) + K (tAbv (f_holder kind act9).toNatClampNeg) 2) + K (lKind (wLw wd li)) 0), bo_1))) else if (tBod (((f_holder kind act9) * 3) + act9).toNatClampNeg) = 51 then (match P (tAbv (f_holder kind act9).toNatClampNeg) 0 xx (rn + 1) ((q_begin (tBod (((f_holder kind act9) * 3) + act9).toNatClampNeg) rn bo).2) with | (r_0, bo_0) => (r_0 ^^^ (lNum (wLw wd li)), ((rn + 1) + K (tAbv (f_holder kind act9).toNatClampNeg) 0), bo_0)) else if (tBod (((f_holder kind act9) * 3) + act9).toNatClampNeg) = 61 then (match P (tAbv (f_holder kind act9).toNatClampNeg) 1 xx (rn + 1) ((q_begin (tBod (((f_holder kind act9) * 3) + act9).toNatClampNeg) rn bo).2) with | (r_0, bo_0) => (r_0 + (lV (wLw wd li)), ((rn + 1) + K (tAbv (f_holder kind act9).toNatClampNeg) 1), bo_0)) else (0, (rn + 1), (q_begin (tBod (((f_holder kind act9) * 3) + act9).toNatClampNeg) rn bo).2)
set_option maxHeartbeats 4000000 in
set_option maxRecDepth 100000 in
theorem c_X0_run_s (l : Launch) (G : GG) (Z : AM) (AD ad td : Nat → Nat) (wd wt : WT) (tk : Bool) (rn : Nat) (bo : Nat → Int32) (li : Nat) (kind act9 xx dp : Int32) (d : Nat) (K : Int32 → Int32 → Nat) (P : AF) (hN : cN AD ad td) (hAZ : ∀ q : Nat, cA AD ad td q → Z.1 q) (hli : li < 8) (hdp : dp ≤ 40) (hrn : rn + k_runS (lKind (wLw wd li)) K kind act9 < 2 ^ 31) (hP : cAct l G Z AD ad td wd wt tk li { frames := 4 + 2 * d, cells := 0, slots := 0, locals := 120 + 40 * d } (dp + 1) K P) : Met l yX0_run wsX0_run { frames := 4 + 2 * (d + 1), cells := 0, slots := 0, locals := 120 + 40 * (d + 1) } (aP G Z [.ref (AD 1), .ref (ad (10 + 5 * li)), .int kind, .int act9, .int xx, .int dp] (fun H => CAt G AD ad td wd wt tk (nI rn) bo H)) (wrQ (some (.int ((q_runS wd li K P kind act9 xx rn bo).1))) (fun H => CAt G AD ad td wd wt tk (nI ((q_runS wd li K P kind act9 xx rn bo).2.1)) ((q_runS wd li K P kind act9 xx rn bo).2.2) H) (cA AD ad td)) 0 0 (cA AD ad td) := by
  refine Met.ofW (cc := cX0_run) (maxL := 11) (ret := (some .int)) (by decide) rfl ?_
  intro p e s m args below meth c s₁ Bd hml hv
  obtain ⟨rfl, hK, hZ, hB⟩ := hv
  have hx := Bd.exec
  have hb := Bd.bytes
  have hr := Bd.returns
  have hts := atoms_spec (ws := wsX0_run) Bd.pre
  have hown : s.vm.findClass RX0 = some m.cls := findClass_of_methodNamed Bd.named
  have hlocks := Bd.notSynchronized
  have hC : CallFix p m c cX0_run 11 s _ wsX0_run RX0 := ⟨hx, hb, hml, hown, hts⟩
  have hl := lv_entry ([.ref (AD 1), .ref (ad (10 + 5 * li)), .int kind, .int act9, .int xx, .int dp]) (n := 11) (Nat.le_of_ble_eq_true rfl)
  rw [lg_entry_eq]
  generalize (lg_sl ([.ref (AD 1), .ref (ad (10 + 5 * li)), .int kind, .int act9, .int xx, .int dp]) ++ List.replicate (11 - (lg_sl ([.ref (AD 1), .ref (ad (10 + 5 * li)), .int kind, .int act9, .int xx, .int dp])).length) Slot.unset).toArray = ls at hl ⊢
  have hl : lv_has ls 11 [(0, .ref (AD 1)), (1, .ref (ad (10 + 5 * li))), (2, .int kind), (3, .int act9), (4, .int xx), (5, .int dp)] := hl
  have hS : wS (cA AD ad td) s.heap s.heap [] := wS.rf
  have f_s := hB
  refine lv_iload_n hx hb dX0_run_0 rfl (lv_at hl 2 rfl) ?_
  refine lv_iload_n hx hb dX0_run_1 rfl (lv_at hl 3 rfl) ?_
  refine ro_call (va_runS (As := [.int kind, .int act9]) (rest := []) hC (c_X0_holderOf l G Z kind act9) (va_cwS 2 hts gX0_run_X0_holderOf rfl rfl rfl kd_X0_holderOf ⟨(show 1 + 1 ≤ 4 + 2 * (d + 1) by omega), (show 8 + (4 + 11) + (20) ≤ 120 + 40 * (d + 1) by omega)⟩) (a_preS hK hZ trivial) rfl rfl hl.1 rfl (lv_room (Nat.le_of_ble_eq_true rfl)) dX0_run_2 ⟨Nat.zero_le _, Nat.zero_le _⟩) ?_
  refine lv_istore (lv' := [(6, .int (f_holder kind act9)), (0, .ref (AD 1)), (1, .ref (ad (10 + 5 * li))), (2, .int kind), (3, .int act9), (4, .int xx), (5, .int dp)]) hx hb dX0_run_5 hl (by decide) rfl (fun ls hl => ?_)
  refine lv_iload hx hb dX0_run_7 (lv_at hl 0 rfl) ?_
  refine lv_if_lt (tgt := 19) hx hb dX0_run_9 (by decide) (fun h_1 => ?_) (fun h_1 => ?_)
  · refine lv_iconst (v := 0) hx hb dX0_run_19 (by decide) ?_
    have hE9 : q_runS wd li K P kind act9 xx rn bo = (0, rn, bo) := (by (try unfold q_runS); (repeat rw [if_pos h_1]); first | done | rfl)
    exact wr_iret hx hb hr hlocks dX0_run_20 hS (by rw [hE9]; exact f_s) (by rw [hE9]; first | done | rfl)
  · refine lv_iload hx hb dX0_run_12 (lv_at hl 6 rfl) ?_
    refine lv_bipush (v := 40) hx hb dX0_run_14 (by decide +kernel) ?_
    refine lv_icmp_le (tgt := 21) hx hb dX0_run_16 (by decide) (fun h_2 => ?_) (fun h_2 => ?_)
    · refine lv_aload_n hx hb dX0_run_21 rfl (lv_at hl 2 rfl) ?_
      refine r_get (C := RX1) (T := TX1) (N := 8) hx hb hts i_X0_run_X1 hown hK (f_s.2.1.2.2.2.2.2.2.1 _ hli).1 rfl 1 (by decide) k_X0_run_fieldLink_23 rfl rfl dX0_run_22 ?_
      refine lv_istore (lv' := [(7, .int (lKind (wLw wd li))), (6, .int (f_holder kind act9)), (0, .ref (AD 1)), (1, .ref (ad (10 + 5 * li))), (2, .int kind), (3, .int act9), (4, .int xx), (5, .int dp)]) hx hb dX0_run_25 hl (by decide) rfl (fun ls hl => ?_)
      refine a_getsN hx hb hZ.2.2.2.1.1 hown (hK.2 _ (List.mem_of_getElem? (i := 0) rfl)) dX0_run_27 ?_
      refine lv_iload hx hb dX0_run_30 (lv_at hl 1 rfl) ?_
      refine a_iald hx hb hZ.2.2.2.1.2 (holder_in h_1) dX0_run_32 ?_
      refine lv_istore (lv' := [(8, .int (tAbv (f_holder kind act9).toNatClampNeg)), (7, .int (lKind (wLw wd li))), (6, .int (f_holder kind act9)), (0, .ref (AD 1)), (1, .ref (ad (10 + 5 * li))), (2, .int kind), (3, .int act9), (4, .int xx), (5, .int dp)]) hx hb dX0_run_33 hl (by decide) rfl (fun ls hl => ?_)
      refine lv_iload hx hb dX0_run_35 (lv_at hl 8 rfl) ?_
      refine lv_iconst (v := 1) hx hb dX0_run_37 (by decide) ?_
      refine lv_iadd hx hb dX0_run_38 ?_
      refine lv_istore (lv' := [(9, .int (dp + 1)), (8, .int (tAbv (f_holder kind act9).toNatClampNeg)), (7, .int (lKind (wLw wd li))), (6, .int (f_holder kind act9)), (0, .ref (AD 1)), (1, .ref (ad (10 + 5 * li))), (2, .int kind), (3, .int act9), (4, .int xx), (5, .int dp)]) hx hb dX0_run_39 hl (by decide) rfl (fun ls hl => ?_)
      refine a_getsN hx hb hZ.2.2.2.2.1.1 hown (hK.2 _ (List.mem_of_getElem? (i := 1) rfl)) dX0_run_41 ?_
      refine lv_iload hx hb dX0_run_44 (lv_at hl 3 rfl) ?_
      refine lv_iconst (v := 3) hx hb dX0_run_46 (by decide) ?_
      refine lv_imul hx hb dX0_run_47 ?_
      refine lv_iload_n hx hb dX0_run_48 rfl (lv_at hl 7 rfl) ?_
      refine lv_iadd hx hb dX0_run_49 ?_
      refine a_iald hx hb hZ.2.2.2.2.1.2 (holderB_in h_1) dX0_run_50 ?_
      refine lv_istore (lv' := [(10, .int (tBod (((f_holder kind act9) * 3) + act9).toNatClampNeg)), (9, .int (dp + 1)), (8, .int (tAbv (f_holder kind act9).toNatClampNeg)), (7, .int (lKind (wLw wd li))), (6, .int (f_holder kind act9)), (0, .ref (AD 1)), (1, .ref (ad (10 + 5 * li))), (2, .int kind), (3, .int act9), (4, .int xx), (5, .int dp)]) hx hb dX0_run_51 hl (by decide) rfl (fun ls hl => ?_)
      refine lv_aload_n hx hb dX0_run_53 rfl (lv_at hl 5 rfl) ?_
      refine lv_iload hx hb dX0_run_54 (lv_at hl 0 rfl) ?_
      refine wr_callv (va_runV (As := [.int (tBod (((f_holder kind act9) * 3) + act9).toNatClampNeg)]) (rest := []) hC (c3_X0_begin l G AD ad td wd wt tk rn bo (tBod (((f_holder kind act9) * 3) + act9).toNatClampNeg) hN (by have hk := hrn; unfold k_runS at hk; rw [if_neg h_1] at hk; have := k_pos9 (K := K) (own := (lKind (wLw wd li))) (kind := kind) (act9 := act9); omega)) (cwV 1 hts gX0_run_X0_begin rfl rfl rfl kd_X0_begin ⟨(show 0 + 1 ≤ 4 + 2 * (d + 1) by omega), (show 8 + (2 + 11) + (0) ≤ 120 + 40 * (d + 1) by omega)⟩) (ro_preV hK f_s.2.2.2.1 rfl f_s) rfl rfl hl.1 rfl (lv_room (Nat.le_of_ble_eq_true rfl)) dX0_run_56 ⟨Nat.zero_le _, Nat.zero_le _⟩) hS (fun q h => h) (fun H locs f_n hq hS => ?_)
      have hZ := hZ.kept (fun a9 h9 => hq a9 (fun z9 => h9 (hAZ a9 ((fun q h => h) a9 z9))))
      have f_s := (f_n : CAt G AD ad td wd wt tk (nI (rn + 1)) ((q_begin (tBod (((f_holder kind act9) * 3) + act9).toNatClampNeg) rn bo).2) H)
      refine lv_iload hx hb dX0_run_59 (lv_at hl 0 rfl) ?_
      rcases Classical.em ((tBod (((f_holder kind act9) * 3) + act9).toNatClampNeg) = 1) with h_3 | h_3
      · refine lv_lookup (off := 83) (tgt := 144) hx hb dX0_run_61 (by decide) (by rw [h_3]; rfl) (by decide) ?_
        refine lv_iload hx hb dX0_run_144 (lv_at hl 9 rfl) ?_
        refine lv_aload_n hx hb dX0_run_146 rfl (lv_at hl 6 rfl) ?_
        refine r_get (C := RX1) (T := TX1) (N := 8) hx hb hts i_X0_run_X1 hown hK (f_s.2.1.2.2.2.2.2.2.1 _ hli).1 rfl 0 (by decide) k_X0_run_fieldLink_38 rfl rfl dX0_run_147 ?_
        refine lv_iadd hx hb dX0_run_150 ?_
        have hE9 : q_runS wd li K P kind act9 xx rn bo = (xx + (lNum (wLw wd li)), (rn + 1), (q_begin (tBod (((f_holder kind act9) * 3) + act9).toNatClampNeg) rn bo).2) := (by (try unfold q_runS); (repeat rw [if_neg h_1]); (repeat rw [if_pos h_2]); (repeat rw [if_pos h_3]); first | done | rfl)
        exact wr_iret hx hb hr hlocks dX0_run_151 hS (by rw [hE9]; exact f_s) (by rw [hE9]; first | done | rfl)
      · rcases Classical.em ((tBod (((f_holder kind act9) * 3) + act9).toNatClampNeg) = 2) with h_4 | h_4
        · refine lv_lookup (off := 91) (tgt := 152) hx hb dX0_run_61 (by decide) ((lv_osw h_3 (by decide)).trans (by rw [h_4]; rfl)) (by decide) ?_
          refine lv_aload_n hx hb dX0_run_152 rfl (lv_at hl 5 rfl) ?_
          refine lv_aload_n hx hb dX0_run_153 rfl (lv_at hl 6 rfl) ?_
          refine lv_iload hx hb dX0_run_154 (lv_at hl 3 rfl) ?_
          refine lv_iconst (v := 0) hx hb dX0_run_156 (by decide) ?_
          refine lv_iload hx hb dX0_run_157 (lv_at hl 9 rfl) ?_
          refine lv_iload hx hb dX0_run_159 (lv_at hl 1 rfl) ?_
          obtain ⟨⟨r_0, bo_0⟩, hy_0⟩ : ∃ z9, P (lKind (wLw wd li)) 0 xx (rn + 1) ((q_begin (tBod (((f_holder kind act9) * 3) + act9).toNatClampNeg) rn bo).2) = z9 := ⟨_, rfl⟩
          refine wr_call (va_runV (As := [.ref (ad (10 + 5 * li)), .int (lKind (wLw wd li)), .int 0, .int xx, .int (dp + 1)]) (rest := []) hC (cAct.at hP (lKind (wLw wd li)) 0 xx (rn + 1) ((q_begin (tBod (((f_holder kind act9) * 3) + act9).toNatClampNeg) rn bo).2) (by have hk := hrn; unfold k_runS at hk; (repeat rw [if_neg h_1] at hk); (repeat rw [if_pos h_2] at hk); (repeat rw [if_neg h_3] at hk); (repeat rw [if_pos h_4] at hk); omega) r_0 bo_0 hy_0) (cwV 5 hts gX0_run_X0_run rfl rfl rfl kd_X0_run ⟨(show 4 + 2 * d + 1 ≤ 4 + 2 * (d + 1) by omega), (show 8 + (11 + 11) + (120 + 40 * d) ≤ 120 + 40 * (d + 1) by omega)⟩) (a_preV hK hZ f_s.2.2.2.1 rfl f_s) rfl rfl hl.1 rfl (lv_room (Nat.le_of_ble_eq_true rfl)) dX0_run_161 ⟨Nat.zero_le _, Nat.zero_le _⟩) hS (fun q h => h) (fun H locs f_n hq hS => ?_)
          have hZ := hZ.kept (fun a9 h9 => hq a9 (fun z9 => h9 (hAZ a9 ((fun q h => h) a9 z9))))
          have f_s := (f_n : CAt G AD ad td wd wt tk (nI ((rn + 1) + K (lKind (wLw wd li)) 0)) bo_0 H)
          refine lv_aload_n hx hb dX0_run_164 rfl (lv_at hl 6 rfl) ?_
          refine r_get (C := RX1) (T := TX1) (N := 8) hx hb hts i_X0_run_X1 hown hK (f_s.2.1.2.2.2.2.2.2.1 _ hli).1 rfl 2 (by decide) k_X0_run_fieldLink_45 rfl rfl dX0_run_165 ?_
          refine lv_isub hx hb dX0_run_168 ?_
          have hE9 : q_runS wd li K P kind act9 xx rn bo = (r_0 - (lV (wLw wd li)), ((rn + 1) + K (lKind (wLw wd li)) 0), bo_0) := (by (try unfold q_runS); (repeat rw [if_neg h_1]); (repeat rw [if_pos h_2]); (repeat rw [if_neg h_3]); (repeat rw [if_pos h_4]); (try rw [hy_0]); (try dsimp only); first | done | rfl)
          exact wr_iret hx hb hr hlocks dX0_run_169 hS (by rw [hE9]; exact f_s) (by rw [hE9]; first | done | rfl)
        · rcases Classical.em ((tBod (((f_holder kind act9) * 3) + act9).toNatClampNeg) = 3) with h_5 | h_5
          · refine lv_lookup (off := 109) (tgt := 170) hx hb dX0_run_61 (by decide) ((lv_osw h_3 (by decide)).trans ((lv_osw h_4 (by decide)).trans (by rw [h_5]; rfl))) (by decide) ?_
            refine lv_aload_n hx hb dX0_run_170 rfl (lv_at hl 5 rfl) ?_
            refine lv_aload_n hx hb dX0_run_171 rfl (lv_at hl 6 rfl) ?_
            refine lv_iload hx hb dX0_run_172 (lv_at hl 3 rfl) ?_
            refine lv_iconst (v := 1) hx hb dX0_run_174 (by decide) ?_
            refine lv_iload hx hb dX0_run_175 (lv_at hl 9 rfl) ?_
            refine lv_iload hx hb dX0_run_177 (lv_at hl 1 rfl) ?_
            obtain ⟨⟨r_0, bo_0⟩, hy_0⟩ : ∃ z9, P (lKind (wLw wd li)) 1 xx (rn + 1) ((q_begin (tBod (((f_holder kind act9) * 3) + act9).toNatClampNeg) rn bo).2) = z9 := ⟨_, rfl⟩
            refine wr_call (va_runV (As := [.ref (ad (10 + 5 * li)), .int (lKind (wLw wd li)), .int 1, .int xx, .int (dp + 1)]) (rest := []) hC (cAct.at hP (lKind (wLw wd li)) 1 xx (rn + 1) ((q_begin (tBod (((f_holder kind act9) * 3) + act9).toNatClampNeg) rn bo).2) (by have hk := hrn; unfold k_runS at hk; (repeat rw [if_neg h_1] at hk); (repeat rw [if_pos h_2] at hk); (repeat rw [if_neg h_3] at hk); (repeat rw [if_neg h_4] at hk); (repeat rw [if_pos h_5] at hk); omega) r_0 bo_0 hy_0) (cwV 5 hts gX0_run_X0_run rfl rfl rfl kd_X0_run ⟨(show 4 + 2 * d + 1 ≤ 4 + 2 * (d + 1) by omega), (show 8 + (11 + 11) + (120 + 40 * d) ≤ 120 + 40 * (d + 1) by omega)⟩) (a_preV hK hZ f_s.2.2.2.1 rfl f_s) rfl rfl hl.1 rfl (lv_room (Nat.le_of_ble_eq_true rfl)) dX0_run_179 ⟨Nat.zero_le _, Nat.zero_le _⟩) hS (fun q h => h) (fun H locs f_n hq hS => ?_)
            have hZ := hZ.kept (fun a9 h9 => hq a9 (fun z9 => h9 (hAZ a9 ((fun q h => h) a9 z9))))
            have f_s := (f_n : CAt G AD ad td wd wt tk (nI ((rn + 1) + K (lKind (wLw wd li)) 1)) bo_0 H)
            refine lv_iconst (v := 2) hx hb dX0_run_182 (by decide) ?_
            refine lv_imul hx hb dX0_run_183 ?_
            have hE9 : q_runS wd li K P kind act9 xx rn bo = (r_0 * 2, ((rn + 1) + K (lKind (wLw wd li)) 1), bo_0) := (by (try unfold q_runS); (repeat rw [if_neg h_1]); (repeat rw [if_pos h_2]); (repeat rw [if_neg h_3]); (repeat rw [if_neg h_4]); (repeat rw [if_pos h_5]); (try rw [hy_0]); (try dsimp only); first | done | rfl)
            exact wr_iret hx hb hr hlocks dX0_run_184 hS (by rw [hE9]; exact f_s) (by rw [hE9]; first | done | rfl)
          · rcases Classical.em ((tBod (((f_holder kind act9) * 3) + act9).toNatClampNeg) = 11) with h_6 | h_6
            · refine lv_lookup (off := 124) (tgt := 185) hx hb dX0_run_61 (by decide) ((lv_osw h_3 (by decide)).trans ((lv_osw h_4 (by decide)).trans ((lv_osw h_5 (by decide)).trans (by rw [h_6]; rfl)))) (by decide) ?_
              refine lv_aload_n hx hb dX0_run_185 rfl (lv_at hl 5 rfl) ?_
              refine lv_aload_n hx hb dX0_run_186 rfl (lv_at hl 6 rfl) ?_
              refine lv_iload hx hb dX0_run_187 (lv_at hl 2 rfl) ?_
              refine lv_iconst (v := 0) hx hb dX0_run_189 (by decide) ?_
              refine lv_iload hx hb dX0_run_190 (lv_at hl 9 rfl) ?_
              refine lv_iconst (v := 3) hx hb dX0_run_192 (by decide) ?_
              refine lv_imul hx hb dX0_run_193 ?_
              refine lv_iload hx hb dX0_run_194 (lv_at hl 1 rfl) ?_
              obtain ⟨⟨r_0, bo_0⟩, hy_0⟩ : ∃ z9, P (tAbv (f_holder kind act9).toNatClampNeg) 0 (xx * 3) (rn + 1) ((q_begin (tBod (((f_holder kind act9) * 3) + act9).toNatClampNeg) rn bo).2) = z9 := ⟨_, rfl⟩
              refine wr_call (va_runV (As := [.ref (ad (10 + 5 * li)), .int (tAbv (f_holder kind act9).toNatClampNeg), .int 0, .int (xx * 3), .int (dp + 1)]) (rest := []) hC (cAct.at hP (tAbv (f_holder kind act9).toNatClampNeg) 0 (xx * 3) (rn + 1) ((q_begin (tBod (((f_holder kind act9) * 3) + act9).toNatClampNeg) rn bo).2) (by have hk := hrn; unfold k_runS at hk; (repeat rw [if_neg h_1] at hk); (repeat rw [if_pos h_2] at hk); (repeat rw [if_neg h_3] at hk); (repeat rw [if_neg h_4] at hk); (repeat rw [if_neg h_5] at hk); (repeat rw [if_pos h_6] at hk); omega) r_0 bo_0 hy_0) (cwV 5 hts gX0_run_X0_run rfl rfl rfl kd_X0_run ⟨(show 4 + 2 * d + 1 ≤ 4 + 2 * (d + 1) by omega), (show 8 + (11 + 11) + (120 + 40 * d) ≤ 120 + 40 * (d + 1) by omega)⟩) (a_preV hK hZ f_s.2.2.2.1 rfl f_s) rfl rfl hl.1 rfl (lv_room (Nat.le_of_ble_eq_true rfl)) dX0_run_196 ⟨Nat.zero_le _, Nat.zero_le _⟩) hS (fun q h => h) (fun H locs f_n hq hS => ?_)
              have hZ := hZ.kept (fun a9 h9 => hq a9 (fun z9 => h9 (hAZ a9 ((fun q h => h) a9 z9))))
              have f_s := (f_n : CAt G AD ad td wd wt tk (nI ((rn + 1) + K (tAbv (f_holder kind act9).toNatClampNeg) 0)) bo_0 H)
              have hE9 : q_runS wd li K P kind act9 xx rn bo = (r_0, ((rn + 1) + K (tAbv (f_holder kind act9).toNatClampNeg) 0), bo_0) := (by (try unfold q_runS); (repeat rw [if_neg h_1]); (repeat rw [if_pos h_2]); (repeat rw [if_neg h_3]); (repeat rw [if_neg h_4]); (repeat rw [if_neg h_5]); (repeat rw [if_pos h_6]); (try rw [hy_0]); (try dsimp only); first | done | rfl)
              exact wr_iret hx hb hr hlocks dX0_run_199 hS (by rw [hE9]; exact f_s) (by rw [hE9]; first | done | rfl)
            · rcases Classical.em ((tBod (((f_holder kind act9) * 3) + act9).toNatClampNeg) = 21) with h_7 | h_7
              · refine lv_lookup (off := 139) (tgt := 200) hx hb dX0_run_61 (by decide) ((lv_osw h_3 (by decide)).trans ((lv_osw h_4 (by decide)).trans ((lv_osw h_5 (by decide)).trans ((lv_osw h_6 (by decide)).trans (by rw [h_7]; rfl))))) (by decide) ?_
                refine lv_aload_n hx hb dX0_run_200 rfl (lv_at hl 5 rfl) ?_
                refine lv_aload_n hx hb dX0_run_201 rfl (lv_at hl 6 rfl) ?_
                refine lv_iload hx hb dX0_run_202 (lv_at hl 2 rfl) ?_
                refine lv_iconst (v := 1) hx hb dX0_run_204 (by decide) ?_
                refine lv_iload hx hb dX0_run_205 (lv_at hl 9 rfl) ?_
                refine lv_iload hx hb dX0_run_207 (lv_at hl 1 rfl) ?_
                obtain ⟨⟨r_0, bo_0⟩, hy_0⟩ : ∃ z9, P (tAbv (f_holder kind act9).toNatClampNeg) 1 xx (rn + 1) ((q_begin (tBod (((f_holder kind act9) * 3) + act9).toNatClampNeg) rn bo).2) = z9 := ⟨_, rfl⟩
                refine wr_call (va_runV (As := [.ref (ad (10 + 5 * li)), .int (tAbv (f_holder kind act9).toNatClampNeg), .int 1, .int xx, .int (dp + 1)]) (rest := []) hC (cAct.at hP (tAbv (f_holder kind act9).toNatClampNeg) 1 xx (rn + 1) ((q_begin (tBod (((f_holder kind act9) * 3) + act9).toNatClampNeg) rn bo).2) (by have hk := hrn; unfold k_runS at hk; (repeat rw [if_neg h_1] at hk); (repeat rw [if_pos h_2] at hk); (repeat rw [if_neg h_3] at hk); (repeat rw [if_neg h_4] at hk); (repeat rw [if_neg h_5] at hk); (repeat rw [if_neg h_6] at hk); (repeat rw [if_pos h_7] at hk); omega) r_0 bo_0 hy_0) (cwV 5 hts gX0_run_X0_run rfl rfl rfl kd_X0_run ⟨(show 4 + 2 * d + 1 ≤ 4 + 2 * (d + 1) by omega), (show 8 + (11 + 11) + (120 + 40 * d) ≤ 120 + 40 * (d + 1) by omega)⟩) (a_preV hK hZ f_s.2.2.2.1 rfl f_s) rfl rfl hl.1 rfl (lv_room (Nat.le_of_ble_eq_true rfl)) dX0_run_209 ⟨Nat.zero_le _, Nat.zero_le _⟩) hS (fun q h => h) (fun H locs f_n hq hS => ?_)
                have hZ := hZ.kept (fun a9 h9 => hq a9 (fun z9 => h9 (hAZ a9 ((fun q h => h) a9 z9))))
                have f_s := (f_n : CAt G AD ad td wd wt tk (nI ((rn + 1) + K (tAbv (f_holder kind act9).toNatClampNeg) 1)) bo_0 H)
                refine lv_ineg hx hb dX0_run_212 ?_
                have hE9 : q_runS wd li K P kind act9 xx rn bo = (-r_0, ((rn + 1) + K (tAbv (f_holder kind act9).toNatClampNeg) 1), bo_0) := (by (try unfold q_runS); (repeat rw [if_neg h_1]); (repeat rw [if_pos h_2]); (repeat rw [if_neg h_3]); (repeat rw [if_neg h_4]); (repeat rw [if_neg h_5]); (repeat rw [if_neg h_6]); (repeat rw [if_pos h_7]); (try rw [hy_0]); (try dsimp only); first | done | rfl)
                exact wr_iret hx hb hr hlocks dX0_run_213 hS (by rw [hE9]; exact f_s) (by rw [hE9]; first | done | rfl)
              · rcases Classical.em ((tBod (((f_holder kind act9) * 3) + act9).toNatClampNeg) = 31) with h_8 | h_8
                · refine lv_lookup (off := 153) (tgt := 214) hx hb dX0_run_61 (by decide) ((lv_osw h_3 (by decide)).trans ((lv_osw h_4 (by decide)).trans ((lv_osw h_5 (by decide)).trans ((lv_osw h_6 (by decide)).trans ((lv_osw h_7 (by decide)).trans (by rw [h_8]; rfl)))))) (by decide) ?_
                  refine lv_aload_n hx hb dX0_run_214 rfl (lv_at hl 5 rfl) ?_
                  refine lv_aload_n hx hb dX0_run_215 rfl (lv_at hl 6 rfl) ?_
                  refine lv_iload hx hb dX0_run_216 (lv_at hl 2 rfl) ?_
                  refine lv_iconst (v := 2) hx hb dX0_run_218 (by decide) ?_
                  refine lv_iload hx hb dX0_run_219 (lv_at hl 9 rfl) ?_
                  refine lv_iload hx hb dX0_run_221 (lv_at hl 1 rfl) ?_
                  obtain ⟨⟨r_0, bo_0⟩, hy_0⟩ : ∃ z9, P (tAbv (f_holder kind act9).toNatClampNeg) 2 xx (rn + 1) ((q_begin (tBod (((f_holder kind act9) * 3) + act9).toNatClampNeg) rn bo).2) = z9 := ⟨_, rfl⟩
                  refine wr_call (va_runV (As := [.ref (ad (10 + 5 * li)), .int (tAbv (f_holder kind act9).toNatClampNeg), .int 2, .int xx, .int (dp + 1)]) (rest := []) hC (cAct.at hP (tAbv (f_holder kind act9).toNatClampNeg) 2 xx (rn + 1) ((q_begin (tBod (((f_holder kind act9) * 3) + act9).toNatClampNeg) rn bo).2) (by have hk := hrn; unfold k_runS at hk; (repeat rw [if_neg h_1] at hk); (repeat rw [if_pos h_2] at hk); (repeat rw [if_neg h_3] at hk); (repeat rw [if_neg h_4] at hk); (repeat rw [if_neg h_5] at hk); (repeat rw [if_neg h_6] at hk); (repeat rw [if_neg h_7] at hk); (repeat rw [if_pos h_8] at hk); omega) r_0 bo_0 hy_0) (cwV 5 hts gX0_run_X0_run rfl rfl rfl kd_X0_run ⟨(show 4 + 2 * d + 1 ≤ 4 + 2 * (d + 1) by omega), (show 8 + (11 + 11) + (120 + 40 * d) ≤ 120 + 40 * (d + 1) by omega)⟩) (a_preV hK hZ f_s.2.2.2.1 rfl f_s) rfl rfl hl.1 rfl (lv_room (Nat.le_of_ble_eq_true rfl)) dX0_run_223 ⟨Nat.zero_le _, Nat.zero_le _⟩) hS (fun q h => h) (fun H locs f_n hq hS => ?_)
                  have hZ := hZ.kept (fun a9 h9 => hq a9 (fun z9 => h9 (hAZ a9 ((fun q h => h) a9 z9))))
                  have f_s := (f_n : CAt G AD ad td wd wt tk (nI ((rn + 1) + K (tAbv (f_holder kind act9).toNatClampNeg) 2)) bo_0 H)
                  refine lv_bipush (v := 7) hx hb dX0_run_226 (by decide +kernel) ?_
                  refine lv_ixor hx hb dX0_run_228 ?_
                  have hE9 : q_runS wd li K P kind act9 xx rn bo = (r_0 ^^^ 7, ((rn + 1) + K (tAbv (f_holder kind act9).toNatClampNeg) 2), bo_0) := (by (try unfold q_runS); (repeat rw [if_neg h_1]); (repeat rw [if_pos h_2]); (repeat rw [if_neg h_3]); (repeat rw [if_neg h_4]); (repeat rw [if_neg h_5]); (repeat rw [if_neg h_6]); (repeat rw [if_neg h_7]); (repeat rw [if_pos h_8]); (try rw [hy_0]); (try dsimp only); first | done | rfl)
                  exact wr_iret hx hb hr hlocks dX0_run_229 hS (by rw [hE9]; exact f_s) (by rw [hE9]; first | done | rfl)
                · rcases Classical.em ((tBod (((f_holder kind act9) * 3) + act9).toNatClampNeg) = 41) with h_9 | h_9
                  · refine lv_lookup (off := 169) (tgt := 230) hx hb dX0_run_61 (by decide) ((lv_osw h_3 (by decide)).trans ((lv_osw h_4 (by decide)).trans ((lv_osw h_5 (by decide)).trans ((lv_osw h_6 (by decide)).trans ((lv_osw h_7 (by decide)).trans ((lv_osw h_8 (by decide)).trans (by rw [h_9]; rfl))))))) (by decide) ?_
                    refine lv_aload_n hx hb dX0_run_230 rfl (lv_at hl 5 rfl) ?_
                    refine lv_aload_n hx hb dX0_run_231 rfl (lv_at hl 6 rfl) ?_
                    refine lv_iload hx hb dX0_run_232 (lv_at hl 2 rfl) ?_
                    refine lv_iconst (v := 2) hx hb dX0_run_234 (by decide) ?_
                    refine lv_iload hx hb dX0_run_235 (lv_at hl 9 rfl) ?_
                    refine lv_iconst (v := 1) hx hb dX0_run_237 (by decide) ?_
                    refine lv_isub hx hb dX0_run_238 ?_
                    refine lv_iload hx hb dX0_run_239 (lv_at hl 1 rfl) ?_
                    obtain ⟨⟨r_0, bo_0⟩, hy_0⟩ : ∃ z9, P (tAbv (f_holder kind act9).toNatClampNeg) 2 (xx - 1) (rn + 1) ((q_begin (tBod (((f_holder kind act9) * 3) + act9).toNatClampNeg) rn bo).2) = z9 := ⟨_, rfl⟩
                    refine wr_call (va_runV (As := [.ref (ad (10 + 5 * li)), .int (tAbv (f_holder kind act9).toNatClampNeg), .int 2, .int (xx - 1), .int (dp + 1)]) (rest := []) hC (cAct.at hP (tAbv (f_holder kind act9).toNatClampNeg) 2 (xx - 1) (rn + 1) ((q_begin (tBod (((f_holder kind act9) * 3) + act9).toNatClampNeg) rn bo).2) (by have hk := hrn; unfold k_runS at hk; (repeat rw [if_neg h_1] at hk); (repeat rw [if_pos h_2] at hk); (repeat rw [if_neg h_3] at hk); (repeat rw [if_neg h_4] at hk); (repeat rw [if_neg h_5] at hk); (repeat rw [if_neg h_6] at hk); (repeat rw [if_neg h_7] at hk); (repeat rw [if_neg h_8] at hk); (repeat rw [if_pos h_9] at hk); omega) r_0 bo_0 hy_0) (cwV 5 hts gX0_run_X0_run rfl rfl rfl kd_X0_run ⟨(show 4 + 2 * d + 1 ≤ 4 + 2 * (d + 1) by omega), (show 8 + (11 + 11) + (120 + 40 * d) ≤ 120 + 40 * (d + 1) by omega)⟩) (a_preV hK hZ f_s.2.2.2.1 rfl f_s) rfl rfl hl.1 rfl (lv_room (Nat.le_of_ble_eq_true rfl)) dX0_run_241 ⟨Nat.zero_le _, Nat.zero_le _⟩) hS (fun q h => h) (fun H locs f_n hq hS => ?_)
                    have hZ := hZ.kept (fun a9 h9 => hq a9 (fun z9 => h9 (hAZ a9 ((fun q h => h) a9 z9))))
                    have f_s := (f_n : CAt G AD ad td wd wt tk (nI ((rn + 1) + K (tAbv (f_holder kind act9).toNatClampNeg) 2)) bo_0 H)
                    refine lv_aload_n hx hb dX0_run_244 rfl (lv_at hl 5 rfl) ?_
                    refine lv_aload_n hx hb dX0_run_245 rfl (lv_at hl 6 rfl) ?_
                    refine lv_iload hx hb dX0_run_246 (lv_at hl 3 rfl) ?_
                    refine lv_iconst (v := 0) hx hb dX0_run_248 (by decide) ?_
                    refine lv_iconst (v := 2) hx hb dX0_run_249 (by decide) ?_
                    refine lv_iload hx hb dX0_run_250 (lv_at hl 1 rfl) ?_
                    obtain ⟨⟨r_1, bo_1⟩, hy_1⟩ : ∃ z9, P (lKind (wLw wd li)) 0 2 ((rn + 1) + K (tAbv (f_holder kind act9).toNatClampNeg) 2) bo_0 = z9 := ⟨_, rfl⟩
                    refine wr_call (va_runV (As := [.ref (ad (10 + 5 * li)), .int (lKind (wLw wd li)), .int 0, .int 2, .int (dp + 1)]) (rest := [.int r_0]) hC (cAct.at hP (lKind (wLw wd li)) 0 2 ((rn + 1) + K (tAbv (f_holder kind act9).toNatClampNeg) 2) bo_0 (by have hk := hrn; unfold k_runS at hk; (repeat rw [if_neg h_1] at hk); (repeat rw [if_pos h_2] at hk); (repeat rw [if_neg h_3] at hk); (repeat rw [if_neg h_4] at hk); (repeat rw [if_neg h_5] at hk); (repeat rw [if_neg h_6] at hk); (repeat rw [if_neg h_7] at hk); (repeat rw [if_neg h_8] at hk); (repeat rw [if_pos h_9] at hk); omega) r_1 bo_1 hy_1) (cwV 5 hts gX0_run_X0_run rfl rfl rfl kd_X0_run ⟨(show 4 + 2 * d + 1 ≤ 4 + 2 * (d + 1) by omega), (show 8 + (11 + 11) + (120 + 40 * d) ≤ 120 + 40 * (d + 1) by omega)⟩) (a_preV hK hZ f_s.2.2.2.1 rfl f_s) rfl rfl hl.1 rfl (lv_room (Nat.le_of_ble_eq_true rfl)) dX0_run_252 ⟨Nat.zero_le _, Nat.zero_le _⟩) hS (fun q h => h) (fun H locs f_n hq hS => ?_)
                    have hZ := hZ.kept (fun a9 h9 => hq a9 (fun z9 => h9 (hAZ a9 ((fun q h => h) a9 z9))))
                    have f_s := (f_n : CAt G AD ad td wd wt tk (nI (((rn + 1) + K (tAbv (f_holder kind act9).toNatClampNeg) 2) + K (lKind (wLw wd li)) 0)) bo_1 H)
                    refine lv_iadd hx hb dX0_run_255 ?_
                    have hE9 : q_runS wd li K P kind act9 xx rn bo = (r_0 + r_1, (((rn + 1) + K (tAbv (f_holder kind act9).toNatClampNeg) 2) + K (lKind (wLw wd li)) 0), bo_1) := (by (try unfold q_runS); (repeat rw [if_neg h_1]); (repeat rw [if_pos h_2]); (repeat rw [if_neg h_3]); (repeat rw [if_neg h_4]); (repeat rw [if_neg h_5]); (repeat rw [if_neg h_6]); (repeat rw [if_neg h_7]); (repeat rw [if_neg h_8]); (repeat rw [if_pos h_9]); (try rw [hy_0]); (try dsimp only); (try rw [hy_1]); (try dsimp only); first | done | rfl)
                    exact wr_iret hx hb hr hlocks dX0_run_256 hS (by rw [hE9]; exact f_s) (by rw [hE9]; first | done | rfl)
                  · rcases Classical.em ((tBod (((f_holder kind act9) * 3) + act9).toNatClampNeg) = 51) with h_10 | h_10
                    · refine lv_lookup (off := 196) (tgt := 257) hx hb dX0_run_61 (by decide) ((lv_osw h_3 (by decide)).trans ((lv_osw h_4 (by decide)).trans ((lv_osw h_5 (by decide)).trans ((lv_osw h_6 (by decide)).trans ((lv_osw h_7 (by decide)).trans ((lv_osw h_8 (by decide)).trans ((lv_osw h_9 (by decide)).trans (by rw [h_10]; rfl)))))))) (by decide) ?_
                      refine lv_aload_n hx hb dX0_run_257 rfl (lv_at hl 5 rfl) ?_
                      refine lv_aload_n hx hb dX0_run_258 rfl (lv_at hl 6 rfl) ?_
                      refine lv_iload hx hb dX0_run_259 (lv_at hl 2 rfl) ?_
                      refine lv_iconst (v := 0) hx hb dX0_run_261 (by decide) ?_
                      refine lv_iload hx hb dX0_run_262 (lv_at hl 9 rfl) ?_
                      refine lv_iload hx hb dX0_run_264 (lv_at hl 1 rfl) ?_
                      obtain ⟨⟨r_0, bo_0⟩, hy_0⟩ : ∃ z9, P (tAbv (f_holder kind act9).toNatClampNeg) 0 xx (rn + 1) ((q_begin (tBod (((f_holder kind act9) * 3) + act9).toNatClampNeg) rn bo).2) = z9 := ⟨_, rfl⟩
                      refine wr_call (va_runV (As := [.ref (ad (10 + 5 * li)), .int (tAbv (f_holder kind act9).toNatClampNeg), .int 0, .int xx, .int (dp + 1)]) (rest := []) hC (cAct.at hP (tAbv (f_holder kind act9).toNatClampNeg) 0 xx (rn + 1) ((q_begin (tBod (((f_holder kind act9) * 3) + act9).toNatClampNeg) rn bo).2) (by have hk := hrn; unfold k_runS at hk; (repeat rw [if_neg h_1] at hk); (repeat rw [if_pos h_2] at hk); (repeat rw [if_neg h_3] at hk); (repeat rw [if_neg h_4] at hk); (repeat rw [if_neg h_5] at hk); (repeat rw [if_neg h_6] at hk); (repeat rw [if_neg h_7] at hk); (repeat rw [if_neg h_8] at hk); (repeat rw [if_neg h_9] at hk); (repeat rw [if_pos h_10] at hk); omega) r_0 bo_0 hy_0) (cwV 5 hts gX0_run_X0_run rfl rfl rfl kd_X0_run ⟨(show 4 + 2 * d + 1 ≤ 4 + 2 * (d + 1) by omega), (show 8 + (11 + 11) + (120 + 40 * d) ≤ 120 + 40 * (d + 1) by omega)⟩) (a_preV hK hZ f_s.2.2.2.1 rfl f_s) rfl rfl hl.1 rfl (lv_room (Nat.le_of_ble_eq_true rfl)) dX0_run_266 ⟨Nat.zero_le _, Nat.zero_le _⟩) hS (fun q h => h) (fun H locs f_n hq hS => ?_)
                      have hZ := hZ.kept (fun a9 h9 => hq a9 (fun z9 => h9 (hAZ a9 ((fun q h => h) a9 z9))))
                      have f_s := (f_n : CAt G AD ad td wd wt tk (nI ((rn + 1) + K (tAbv (f_holder kind act9).toNatClampNeg) 0)) bo_0 H)
                      refine lv_aload_n hx hb dX0_run_269 rfl (lv_at hl 6 rfl) ?_
                      refine r_get (C := RX1) (T := TX1) (N := 8) hx hb hts i_X0_run_X1 hown hK (f_s.2.1.2.2.2.2.2.2.1 _ hli).1 rfl 0 (by decide) k_X0_run_fieldLink_38 rfl rfl dX0_run_270 ?_
                      refine lv_ixor hx hb dX0_run_273 ?_
                      have hE9 : q_runS wd li K P kind act9 xx rn bo = (r_0 ^^^ (lNum (wLw wd li)), ((rn + 1) + K (tAbv (f_holder kind act9).toNatClampNeg) 0), bo_0) := (by (try unfold q_runS); (repeat rw [if_neg h_1]); (repeat rw [if_pos h_2]); (repeat rw [if_neg h_3]); (repeat rw [if_neg h_4]); (repeat rw [if_neg h_5]); (repeat rw [if_neg h_6]); (repeat rw [if_neg h_7]); (repeat rw [if_neg h_8]); (repeat rw [if_neg h_9]); (repeat rw [if_pos h_10]); (try rw [hy_0]); (try dsimp only); first | done | rfl)
                      exact wr_iret hx hb hr hlocks dX0_run_274 hS (by rw [hE9]; exact f_s) (by rw [hE9]; first | done | rfl)
                    · rcases Classical.em ((tBod (((f_holder kind act9) * 3) + act9).toNatClampNeg) = 61) with h_11 | h_11
                      · refine lv_lookup (off := 214) (tgt := 275) hx hb dX0_run_61 (by decide) ((lv_osw h_3 (by decide)).trans ((lv_osw h_4 (by decide)).trans ((lv_osw h_5 (by decide)).trans ((lv_osw h_6 (by decide)).trans ((lv_osw h_7 (by decide)).trans ((lv_osw h_8 (by decide)).trans ((lv_osw h_9 (by decide)).trans ((lv_osw h_10 (by decide)).trans (by rw [h_11]; rfl))))))))) (by decide) ?_
                        refine lv_aload_n hx hb dX0_run_275 rfl (lv_at hl 5 rfl) ?_
                        refine lv_aload_n hx hb dX0_run_276 rfl (lv_at hl 6 rfl) ?_
                        refine lv_iload hx hb dX0_run_277 (lv_at hl 2 rfl) ?_
                        refine lv_iconst (v := 1) hx hb dX0_run_279 (by decide) ?_
                        refine lv_iload hx hb dX0_run_280 (lv_at hl 9 rfl) ?_
                        refine lv_iload hx hb dX0_run_282 (lv_at hl 1 rfl) ?_
                        obtain ⟨⟨r_0, bo_0⟩, hy_0⟩ : ∃ z9, P (tAbv (f_holder kind act9).toNatClampNeg) 1 xx (rn + 1) ((q_begin (tBod (((f_holder kind act9) * 3) + act9).toNatClampNeg) rn bo).2) = z9 := ⟨_, rfl⟩
                        refine wr_call (va_runV (As := [.ref (ad (10 + 5 * li)), .int (tAbv (f_holder kind act9).toNatClampNeg), .int 1, .int xx, .int (dp + 1)]) (rest := []) hC (cAct.at hP (tAbv (f_holder kind act9).toNatClampNeg) 1 xx (rn + 1) ((q_begin (tBod (((f_holder kind act9) * 3) + act9).toNatClampNeg) rn bo).2) (by have hk := hrn; unfold k_runS at hk; (repeat rw [if_neg h_1] at hk); (repeat rw [if_pos h_2] at hk); (repeat rw [if_neg h_3] at hk); (repeat rw [if_neg h_4] at hk); (repeat rw [if_neg h_5] at hk); (repeat rw [if_neg h_6] at hk); (repeat rw [if_neg h_7] at hk); (repeat rw [if_neg h_8] at hk); (repeat rw [if_neg h_9] at hk); (repeat rw [if_neg h_10] at hk); (repeat rw [if_pos h_11] at hk); omega) r_0 bo_0 hy_0) (cwV 5 hts gX0_run_X0_run rfl rfl rfl kd_X0_run ⟨(show 4 + 2 * d + 1 ≤ 4 + 2 * (d + 1) by omega), (show 8 + (11 + 11) + (120 + 40 * d) ≤ 120 + 40 * (d + 1) by omega)⟩) (a_preV hK hZ f_s.2.2.2.1 rfl f_s) rfl rfl hl.1 rfl (lv_room (Nat.le_of_ble_eq_true rfl)) dX0_run_284 ⟨Nat.zero_le _, Nat.zero_le _⟩) hS (fun q h => h) (fun H locs f_n hq hS => ?_)
                        have hZ := hZ.kept (fun a9 h9 => hq a9 (fun z9 => h9 (hAZ a9 ((fun q h => h) a9 z9))))
                        have f_s := (f_n : CAt G AD ad td wd wt tk (nI ((rn + 1) + K (tAbv (f_holder kind act9).toNatClampNeg) 1)) bo_0 H)
                        refine lv_aload_n hx hb dX0_run_287 rfl (lv_at hl 6 rfl) ?_
                        refine r_get (C := RX1) (T := TX1) (N := 8) hx hb hts i_X0_run_X1 hown hK (f_s.2.1.2.2.2.2.2.2.1 _ hli).1 rfl 2 (by decide) k_X0_run_fieldLink_45 rfl rfl dX0_run_288 ?_
                        refine lv_iadd hx hb dX0_run_291 ?_
                        have hE9 : q_runS wd li K P kind act9 xx rn bo = (r_0 + (lV (wLw wd li)), ((rn + 1) + K (tAbv (f_holder kind act9).toNatClampNeg) 1), bo_0) := (by (try unfold q_runS); (repeat rw [if_neg h_1]); (repeat rw [if_pos h_2]); (repeat rw [if_neg h_3]); (repeat rw [if_neg h_4]); (repeat rw [if_neg h_5]); (repeat rw [if_neg h_6]); (repeat rw [if_neg h_7]); (repeat rw [if_neg h_8]); (repeat rw [if_neg h_9]); (repeat rw [if_neg h_10]); (repeat rw [if_pos h_11]); (try rw [hy_0]); (try dsimp only); first | done | rfl)
                        exact wr_iret hx hb hr hlocks dX0_run_292 hS (by rw [hE9]; exact f_s) (by rw [hE9]; first | done | rfl)
                      · refine lv_lookup (off := 232) (tgt := 293) hx hb dX0_run_61 (by decide) ((lv_osw h_3 (by decide)).trans ((lv_osw h_4 (by decide)).trans ((lv_osw h_5 (by decide)).trans ((lv_osw h_6 (by decide)).trans ((lv_osw h_7 (by decide)).trans ((lv_osw h_8 (by decide)).trans ((lv_osw h_9 (by decide)).trans ((lv_osw h_10 (by decide)).trans ((lv_osw h_11 (by decide)).trans (rfl)))))))))) (by decide) ?_
                        refine lv_iconst (v := 0) hx hb dX0_run_293 (by decide) ?_
                        have hE9 : q_runS wd li K P kind act9 xx rn bo = (0, (rn + 1), (q_begin (tBod (((f_holder kind act9) * 3) + act9).toNatClampNeg) rn bo).2) := (by (try unfold q_runS); (repeat rw [if_neg h_1]); (repeat rw [if_pos h_2]); (repeat rw [if_neg h_3]); (repeat rw [if_neg h_4]); (repeat rw [if_neg h_5]); (repeat rw [if_neg h_6]); (repeat rw [if_neg h_7]); (repeat rw [if_neg h_8]); (repeat rw [if_neg h_9]); (repeat rw [if_neg h_10]); (repeat rw [if_neg h_11]); first | done | rfl)
                        exact wr_iret hx hb hr hlocks dX0_run_294 hS (by rw [hE9]; exact f_s) (by rw [hE9]; first | done | rfl)
    · exact absurd hdp h_2
theorem c2_X0_run_s (l : Launch) (G : GG) (Z : AM) (AD ad td : Nat → Nat) (wd wt : WT) (tk : Bool) (rn : Nat) (bo : Nat → Int32) (li : Nat) (kind act9 xx dp : Int32) (d : Nat) (K : Int32 → Int32 → Nat) (P : AF) (hN : cN AD ad td) (hAZ : ∀ q : Nat, cA AD ad td q → Z.1 q) (hli : li < 8) (hdp : dp ≤ 40) (hrn : rn + k_runS (lKind (wLw wd li)) K kind act9 < 2 ^ 31) (hP : cAct l G Z AD ad td wd wt tk li { frames := 4 + 2 * d, cells := 0, slots := 0, locals := 120 + 40 * d } (dp + 1) K P) (r9 : Int32) (rn9 : Nat) (bo9 : Nat → Int32) (hy9 : q_runS wd li K P kind act9 xx rn bo = (r9, rn9, bo9)) : Met l yX0_run wsX0_run { frames := 4 + 2 * (d + 1), cells := 0, slots := 0, locals := 120 + 40 * (d + 1) } (aP G Z [.ref (AD 1), .ref (ad (10 + 5 * li)), .int kind, .int act9, .int xx, .int dp] (fun H => CAt G AD ad td wd wt tk (nI rn) bo H)) (wrQ (some (.int r9)) (fun H => CAt G AD ad td wd wt tk (nI rn9) bo9 H) (cA AD ad td)) 0 0 (cA AD ad td) := by
  have h9 := c_X0_run_s l G Z AD ad td wd wt tk rn bo li kind act9 xx dp d K P hN hAZ hli hdp hrn hP
  rw [hy9] at h9
  exact h9
def q_runZ (rn : Nat) (bo : Nat → Int32) : Int32 × Nat × (Nat → Int32) := (0, rn, bo)
set_option maxHeartbeats 4000000 in
set_option maxRecDepth 100000 in
theorem c_X0_run_z (l : Launch) (G : GG) (Z : AM) (AD ad td : Nat → Nat) (wd wt : WT) (tk : Bool) (rn : Nat) (bo : Nat → Int32) (li : Nat) (kind act9 xx dp : Int32) (hN : cN AD ad td) (hAZ : ∀ q : Nat, cA AD ad td q → Z.1 q) (hli : li < 8) (hdp : ¬ dp ≤ 40) : Met l yX0_run wsX0_run { frames := 4 + 2 * 0, cells := 0, slots := 0, locals := 120 + 40 * 0 } (aP G Z [.ref (AD 1), .ref (ad (10 + 5 * li)), .int kind, .int act9, .int xx, .int dp] (fun H => CAt G AD ad td wd wt tk (nI rn) bo H)) (wrQ (some (.int ((q_runZ rn bo).1))) (fun H => CAt G AD ad td wd wt tk (nI ((q_runZ rn bo).2.1)) ((q_runZ rn bo).2.2) H) (cA AD ad td)) 0 0 (cA AD ad td) := by
  refine Met.ofW (cc := cX0_run) (maxL := 11) (ret := (some .int)) (by decide) rfl ?_
  intro p e s m args below meth c s₁ Bd hml hv
  obtain ⟨rfl, hK, hZ, hB⟩ := hv
  have hx := Bd.exec
  have hb := Bd.bytes
  have hr := Bd.returns
  have hts := atoms_spec (ws := wsX0_run) Bd.pre
  have hown : s.vm.findClass RX0 = some m.cls := findClass_of_methodNamed Bd.named
  have hlocks := Bd.notSynchronized
  have hC : CallFix p m c cX0_run 11 s _ wsX0_run RX0 := ⟨hx, hb, hml, hown, hts⟩
  have hl := lv_entry ([.ref (AD 1), .ref (ad (10 + 5 * li)), .int kind, .int act9, .int xx, .int dp]) (n := 11) (Nat.le_of_ble_eq_true rfl)
  rw [lg_entry_eq]
  generalize (lg_sl ([.ref (AD 1), .ref (ad (10 + 5 * li)), .int kind, .int act9, .int xx, .int dp]) ++ List.replicate (11 - (lg_sl ([.ref (AD 1), .ref (ad (10 + 5 * li)), .int kind, .int act9, .int xx, .int dp])).length) Slot.unset).toArray = ls at hl ⊢
  have hl : lv_has ls 11 [(0, .ref (AD 1)), (1, .ref (ad (10 + 5 * li))), (2, .int kind), (3, .int act9), (4, .int xx), (5, .int dp)] := hl
  have hS : wS (cA AD ad td) s.heap s.heap [] := wS.rf
  have f_s := hB
  refine lv_iload_n hx hb dX0_run_0 rfl (lv_at hl 2 rfl) ?_
  refine lv_iload_n hx hb dX0_run_1 rfl (lv_at hl 3 rfl) ?_
  refine ro_call (va_runS (As := [.int kind, .int act9]) (rest := []) hC (c_X0_holderOf l G Z kind act9) (va_cwS 2 hts gX0_run_X0_holderOf rfl rfl rfl kd_X0_holderOf ⟨(show 1 + 1 ≤ 4 + 2 * 0 by omega), (show 8 + (4 + 11) + (20) ≤ 120 + 40 * 0 by omega)⟩) (a_preS hK hZ trivial) rfl rfl hl.1 rfl (lv_room (Nat.le_of_ble_eq_true rfl)) dX0_run_2 ⟨Nat.zero_le _, Nat.zero_le _⟩) ?_
  refine lv_istore (lv' := [(6, .int (f_holder kind act9)), (0, .ref (AD 1)), (1, .ref (ad (10 + 5 * li))), (2, .int kind), (3, .int act9), (4, .int xx), (5, .int dp)]) hx hb dX0_run_5 hl (by decide) rfl (fun ls hl => ?_)
  refine lv_iload hx hb dX0_run_7 (lv_at hl 0 rfl) ?_
  refine lv_if_lt (tgt := 19) hx hb dX0_run_9 (by decide) (fun h_1 => ?_) (fun h_1 => ?_)
  · refine lv_iconst (v := 0) hx hb dX0_run_19 (by decide) ?_
    have hE9 : q_runZ rn bo = (0, rn, bo) := (by (try unfold q_runZ); (repeat rw [if_pos h_1]); first | done | rfl)
    exact wr_iret hx hb hr hlocks dX0_run_20 hS (by rw [hE9]; exact f_s) (by rw [hE9]; first | done | rfl)
  · refine lv_iload hx hb dX0_run_12 (lv_at hl 6 rfl) ?_
    refine lv_bipush (v := 40) hx hb dX0_run_14 (by decide +kernel) ?_
    refine lv_icmp_le (tgt := 21) hx hb dX0_run_16 (by decide) (fun h_2 => ?_) (fun h_2 => ?_)
    · exact absurd h_2 hdp
    · refine lv_iconst (v := 0) hx hb dX0_run_19 (by decide) ?_
      have hE9 : q_runZ rn bo = (0, rn, bo) := (by (try unfold q_runZ); (repeat rw [if_neg h_1]); (repeat rw [if_neg h_2]); first | done | rfl)
      exact wr_iret hx hb hr hlocks dX0_run_20 hS (by rw [hE9]; exact f_s) (by rw [hE9]; first | done | rfl)
theorem c2_X0_run_z (l : Launch) (G : GG) (Z : AM) (AD ad td : Nat → Nat) (wd wt : WT) (tk : Bool) (rn : Nat) (bo : Nat → Int32) (li : Nat) (kind act9 xx dp : Int32) (hN : cN AD ad td) (hAZ : ∀ q : Nat, cA AD ad td q → Z.1 q) (hli : li < 8) (hdp : ¬ dp ≤ 40) (r9 : Int32) (rn9 : Nat) (bo9 : Nat → Int32) (hy9 : q_runZ rn bo = (r9, rn9, bo9)) : Met l yX0_run wsX0_run { frames := 4 + 2 * 0, cells := 0, slots := 0, locals := 120 + 40 * 0 } (aP G Z [.ref (AD 1), .ref (ad (10 + 5 * li)), .int kind, .int act9, .int xx, .int dp] (fun H => CAt G AD ad td wd wt tk (nI rn) bo H)) (wrQ (some (.int r9)) (fun H => CAt G AD ad td wd wt tk (nI rn9) bo9 H) (cA AD ad td)) 0 0 (cA AD ad td) := by
  have h9 := c_X0_run_z l G Z AD ad td wd wt tk rn bo li kind act9 xx dp hN hAZ hli hdp
  rw [hy9] at h9
  exact h9
theorem q_runS_rn (wd : WT) (li : Nat) (K : Int32 → Int32 → Nat) (P : AF) (kind act9 xx : Int32) (rn : Nat) (bo : Nat → Int32) : (q_runS wd li K P kind act9 xx rn bo).2.1 = rn + k_runS (lKind (wLw wd li)) K kind act9 := by
  unfold q_runS k_runS
  rcases Classical.em ((f_holder kind act9) < 0) with h | h0
  · rw [if_pos h, if_pos h]; all_goals ((repeat' split) <;> first | (dsimp only; omega) | omega | rfl)
  rw [if_neg h0, if_neg h0]
  rcases Classical.em ((tBod (((f_holder kind act9) * 3) + act9).toNatClampNeg) = 1) with h | h1
  · rw [if_pos h, if_pos h]; all_goals ((repeat' split) <;> first | (dsimp only; omega) | omega | rfl)
  rw [if_neg h1, if_neg h1]
  rcases Classical.em ((tBod (((f_holder kind act9) * 3) + act9).toNatClampNeg) = 2) with h | h2
  · rw [if_pos h, if_pos h]; all_goals ((repeat' split) <;> first | (dsimp only; omega) | omega | rfl)
  rw [if_neg h2, if_neg h2]
  rcases Classical.em ((tBod (((f_holder kind act9) * 3) + act9).toNatClampNeg) = 3) with h | h3
  · rw [if_pos h, if_pos h]; all_goals ((repeat' split) <;> first | (dsimp only; omega) | omega | rfl)
  rw [if_neg h3, if_neg h3]
  rcases Classical.em ((tBod (((f_holder kind act9) * 3) + act9).toNatClampNeg) = 11) with h | h4
  · rw [if_pos h, if_pos h]; all_goals ((repeat' split) <;> first | (dsimp only; omega) | omega | rfl)
  rw [if_neg h4, if_neg h4]
  rcases Classical.em ((tBod (((f_holder kind act9) * 3) + act9).toNatClampNeg) = 21) with h | h5
  · rw [if_pos h, if_pos h]; all_goals ((repeat' split) <;> first | (dsimp only; omega) | omega | rfl)
  rw [if_neg h5, if_neg h5]
  rcases Classical.em ((tBod (((f_holder kind act9) * 3) + act9).toNatClampNeg) = 31) with h | h6
  · rw [if_pos h, if_pos h]; all_goals ((repeat' split) <;> first | (dsimp only; omega) | omega | rfl)
  rw [if_neg h6, if_neg h6]
  rcases Classical.em ((tBod (((f_holder kind act9) * 3) + act9).toNatClampNeg) = 41) with h | h7
  · rw [if_pos h, if_pos h]; all_goals ((repeat' split) <;> first | (dsimp only; omega) | omega | rfl)
  rw [if_neg h7, if_neg h7]
  rcases Classical.em ((tBod (((f_holder kind act9) * 3) + act9).toNatClampNeg) = 51) with h | h8
  · rw [if_pos h, if_pos h]; all_goals ((repeat' split) <;> first | (dsimp only; omega) | omega | rfl)
  rw [if_neg h8, if_neg h8]
  rcases Classical.em ((tBod (((f_holder kind act9) * 3) + act9).toNatClampNeg) = 61) with h | h9
  · rw [if_pos h, if_pos h]; all_goals ((repeat' split) <;> first | (dsimp only; omega) | omega | rfl)
  rw [if_neg h9, if_neg h9]
  all_goals ((repeat' split) <;> first | (dsimp only; omega) | omega | rfl)
/-- how many bodies a run begins, with d more depths -/
def f_runK (own : Int32) : Nat → Int32 → Int32 → Nat
  | 0 => fun _ _ => 0
  | d + 1 => k_runS own (f_runK own d)
/-- what a run answers, and the trace after it, with d more depths -/
def f_runP (wd : WT) (li : Nat) : Nat → AF
  | 0 => fun _ _ _ _ bo => (0, bo)
  | d + 1 => fun kind act9 xx rn bo => ((q_runS wd li (f_runK (lKind (wLw wd li)) d) (f_runP wd li d) kind act9 xx rn bo).1, (q_runS wd li (f_runK (lKind (wLw wd li)) d) (f_runP wd li d) kind act9 xx rn bo).2.2)
theorem c_run (l : Launch) (G : GG) (Z : AM) (AD ad td : Nat → Nat) (wd wt : WT) (tk : Bool) (li : Nat) (hN : cN AD ad td) (hAZ : ∀ q : Nat, cA AD ad td q → Z.1 q) (hli : li < 8) : ∀ (d o : Nat), o + d = 41 → cAct l G Z AD ad td wd wt tk li { frames := 4 + 2 * d, cells := 0, slots := 0, locals := 120 + 40 * d } (nI o) (f_runK (lKind (wLw wd li)) d) (f_runP wd li d) := by
  intro d
  induction d with
  | zero => exact fun o ho kind act9 xx rn bo hr => c_X0_run_z l G Z AD ad td wd wt tk rn bo li kind act9 xx (nI o) hN hAZ hli (show ¬ nI o ≤ nI 40 from nI_ge (by omega) (by omega))
  | succ d ih =>
    intro o ho kind act9 xx rn bo hr
    have hP := ih (o + 1) (by omega)
    rw [nI_succ] at hP
    have h9 := c_X0_run_s l G Z AD ad td wd wt tk rn bo li kind act9 xx (nI o) d (f_runK (lKind (wLw wd li)) d) (f_runP wd li d) hN hAZ hli (show nI o ≤ nI 40 from nI_le (by omega) (by decide)) hr hP
    rw [q_runS_rn] at h9
    exact h9
theorem runK_fin : ∀ i : Fin 7, ∀ j : Fin 3, f_runK (nI i.val) 41 (nI i.val) (nI j.val) < 100 := by decide +kernel
theorem runK_le {own a : Int32} (h : f_isKind own = true) : f_runK own 41 own a < 2 ^ 31 := by
  have e1 := vp_lt (isKind_in h)
  have e0 : ¬ own < 0 := fun q => (isKind_in h) (Or.inl q)
  rcases Classical.em (f_holder own a < 0) with q | q
  · show k_runS own (f_runK own 40) own a < 2 ^ 31
    unfold k_runS
    rw [if_pos q]
    decide
  · have hh := hold_ok a 7 0 own q
    have e2 : a.toNatClampNeg ≤ 2 := clamp_le (n := 2) (by
      have h3 : a.toInt < 3 := by simpa using Int32.lt_iff_toInt_lt.mp (Int32.not_le.mp hh.2.2)
      exact Int32.le_iff_toInt_le.mpr (by show a.toInt ≤ 2; omega)) (by decide)
    have z := runK_fin ⟨own.toNatClampNeg, e1⟩ ⟨a.toNatClampNeg, by omega⟩
    rw [nI_back e0, nI_back hh.2.1] at z
    omega
theorem i_X5_act_X5 : ∀ w ∈ wsX50, w ∈ wsX5_act := fun _ h => List.mem_cons_of_mem _ (List.mem_append_left _ (List.mem_append_left _ (List.mem_append_left _ (List.mem_append_right _ h))))
theorem k_X5_act_fieldLink_24 : Cond.fieldLink RX5 24 "SameWater" "acts" "LSameWater$Acts;" ∈ wsX5_act := by decide +kernel
theorem i_X5_act_X0 : ∀ w ∈ wsX00, w ∈ wsX5_act := fun _ h => List.mem_cons_of_mem _ (List.mem_append_left _ (List.mem_append_left _ (List.mem_append_right _ h)))
theorem k_X5_act_fieldLink_199 : Cond.fieldLink RX5 199 "SameWater$Acts" "ran" "I" ∈ wsX5_act := by decide +kernel
theorem k_X5_act_fieldLink_14 : Cond.fieldLink RX5 14 "SameWater" "now" "LSameWater$World;" ∈ wsX5_act := by decide +kernel
theorem i_X5_act_X4 : ∀ w ∈ wsX40, w ∈ wsX5_act := fun _ h => List.mem_cons_of_mem _ (List.mem_append_left _ (List.mem_append_right _ h))
theorem k_X5_act_fieldLink_96 : Cond.fieldLink RX5 96 "SameWater$World" "laws" "[LSameWater$Law;" ∈ wsX5_act := by decide +kernel
theorem i_X5_act_X1 : ∀ w ∈ wsX10, w ∈ wsX5_act := fun _ h => List.mem_cons_of_mem _ (List.mem_append_right _ h)
theorem k_X5_act_fieldLink_112 : Cond.fieldLink RX5 112 "SameWater$Law" "kind" "I" ∈ wsX5_act := by decide +kernel
def s_act (wd : WT) (law act9 xx : Int32) (rn : Nat) (bo : Nat → Int32) : Int32 × Nat × (Nat → Int32) := if (w_hasLaw wd law) = true then if act9 < 0 then (0, 0, bo) else if act9 < 3 then (match f_runP wd law.toNatClampNeg 41 (lKind (wLw wd law.toNatClampNeg)) act9 xx 0 bo with | (r_0, bo_0) => (r_0, (0 + f_runK (lKind (wLw wd law.toNatClampNeg)) 41 (lKind (wLw wd law.toNatClampNeg)) act9), bo_0)) else (0, 0, bo) else (0, 0, bo)
set_option maxHeartbeats 4000000 in
set_option maxRecDepth 100000 in
theorem c_X5_act (l : Launch) (G : GG) (Z : AM) (AD ad td : Nat → Nat) (wd wt : WT) (tk : Bool) (rn : Nat) (bo : Nat → Int32) (law act9 xx : Int32) (hN : cN AD ad td) (hAZ : ∀ q : Nat, cA AD ad td q → Z.1 q) (hkd : ∀ law : Int32, w_hasLaw wd law = true → f_isKind (lKind (wLw wd law.toNatClampNeg)) = true) : Met l yX5_act wsX5_act { frames := 87, cells := 0, slots := 0, locals := 1790 } (aP G Z [.ref (AD 0), .int law, .int act9, .int xx] (fun H => CAt G AD ad td wd wt tk (nI rn) bo H)) (wrQ (some (.int ((s_act wd law act9 xx rn bo).1))) (fun H => CAt G AD ad td wd wt tk (nI ((s_act wd law act9 xx rn bo).2.1)) ((s_act wd law act9 xx rn bo).2.2) H) (cA AD ad td)) 0 0 (cA AD ad td) := by
  refine Met.ofW (cc := cX5_act) (maxL := 5) (ret := (some .int)) (by decide) rfl ?_
  intro p e s m args below meth c s₁ Bd hml hv
  obtain ⟨rfl, hK, hZ, hB⟩ := hv
  have hx := Bd.exec
  have hb := Bd.bytes
  have hr := Bd.returns
  have hts := atoms_spec (ws := wsX5_act) Bd.pre
  have hown : s.vm.findClass RX5 = some m.cls := findClass_of_methodNamed Bd.named
  have hlocks := Bd.notSynchronized
  have hC : CallFix p m c cX5_act 5 s _ wsX5_act RX5 := ⟨hx, hb, hml, hown, hts⟩
  have hl := lv_entry ([.ref (AD 0), .int law, .int act9, .int xx]) (n := 5) (Nat.le_of_ble_eq_true rfl)
  rw [lg_entry_eq]
  generalize (lg_sl ([.ref (AD 0), .int law, .int act9, .int xx]) ++ List.replicate (5 - (lg_sl ([.ref (AD 0), .int law, .int act9, .int xx])).length) Slot.unset).toArray = ls at hl ⊢
  have hl : lv_has ls 5 [(0, .ref (AD 0)), (1, .int law), (2, .int act9), (3, .int xx)] := hl
  have hS : wS (cA AD ad td) s.heap s.heap [] := wS.rf
  have f_s := hB
  refine lv_aload_n hx hb dX5_act_0 rfl (lv_at hl 0 rfl) ?_
  refine r_get (C := RX5) (T := TX5) (N := 4) hx hb hts i_X5_act_X5 hown hK f_s.1 rfl 3 (by decide) k_X5_act_fieldLink_24 rfl rfl dX5_act_1 ?_
  refine lv_iconst (v := 0) hx hb dX5_act_4 (by decide) ?_
  refine w_put (C := RX0) (T := TX0) (N := 2) hx hb hts i_X5_act_X0 tyX0 tyX0_ok nmX0 hown hK f_s.2.2.2.1 hS (Or.inl ⟨1, by decide, rfl⟩) rfl 1 (by decide) k_X5_act_fieldLink_199 rfl rfl rfl rfl (Nat.le_of_ble_eq_true rfl) dX5_act_5 (fun H locs hn hq hS => ?_)
  have hZ := hZ.put (hAZ _ (Or.inl ⟨1, by decide, rfl⟩)) hq
  have f_s := (CAt.rest f_s hN (f_s.1.kept (hq _ (hN.2.2.1 0 1 (by decide) (by decide) (by decide)))) hn (f_s.2.2.2.2.kept (hq _ (hN.2.2.1 2 1 (by decide) (by decide) (by decide)))) (fun q h => hq q (fun e => h ⟨1, by decide, e⟩)) : CAt G AD ad td wd wt tk (nI 0) bo H)
  refine lv_aload_n hx hb dX5_act_8 rfl (lv_at hl 0 rfl) ?_
  refine r_get (C := RX5) (T := TX5) (N := 4) hx hb hts i_X5_act_X5 hown hK f_s.1 rfl 0 (by decide) k_X5_act_fieldLink_14 rfl rfl dX5_act_9 ?_
  refine lv_iload_n hx hb dX5_act_12 rfl (lv_at hl 1 rfl) ?_
  refine ro_call (va_runV (As := [.int law]) (rest := []) hC (c_X4_hasLaw l G ad wd law) (cwV 1 hts gX5_act_X4_hasLaw rfl rfl rfl kd_X4_hasLaw ⟨Nat.le_of_ble_eq_true rfl, Nat.le_of_ble_eq_true rfl⟩) (ro_preV hK f_s.2.1.1 rfl f_s.2.1) rfl rfl hl.1 rfl (lv_room (Nat.le_of_ble_eq_true rfl)) dX5_act_13 ⟨Nat.zero_le _, Nat.zero_le _⟩) ?_
  refine bz_eq (tgt := 28) hx hb dX5_act_16 (by decide) (fun h_1 => ?_) (fun h_1 => ?_)
  · refine lv_iconst (v := 0) hx hb dX5_act_28 (by decide) ?_
    have hE9 : s_act wd law act9 xx rn bo = (0, 0, bo) := (by (try unfold s_act); (repeat rw [if_neg h_1]); first | done | rfl)
    exact wr_iret hx hb hr hlocks dX5_act_29 hS (by rw [hE9]; exact f_s) (by rw [hE9]; first | done | rfl)
  · refine lv_iload_n hx hb dX5_act_19 rfl (lv_at hl 2 rfl) ?_
    refine lv_if_lt (tgt := 28) hx hb dX5_act_20 (by decide) (fun h_2 => ?_) (fun h_2 => ?_)
    · refine lv_iconst (v := 0) hx hb dX5_act_28 (by decide) ?_
      have hE9 : s_act wd law act9 xx rn bo = (0, 0, bo) := (by (try unfold s_act); (repeat rw [if_pos h_1]); (repeat rw [if_pos h_2]); first | done | rfl)
      exact wr_iret hx hb hr hlocks dX5_act_29 hS (by rw [hE9]; exact f_s) (by rw [hE9]; first | done | rfl)
    · refine lv_iload_n hx hb dX5_act_23 rfl (lv_at hl 2 rfl) ?_
      refine lv_iconst (v := 3) hx hb dX5_act_24 (by decide) ?_
      refine lv_icmp_lt (tgt := 30) hx hb dX5_act_25 (by decide) (fun h_3 => ?_) (fun h_3 => ?_)
      · refine lv_aload_n hx hb dX5_act_30 rfl (lv_at hl 0 rfl) ?_
        refine r_get (C := RX5) (T := TX5) (N := 4) hx hb hts i_X5_act_X5 hown hK f_s.1 rfl 0 (by decide) k_X5_act_fieldLink_14 rfl rfl dX5_act_31 ?_
        refine r_get (C := RX4) (T := TX4) (N := 6) hx hb hts i_X5_act_X4 hown hK f_s.2.1.1 rfl 4 (by decide) k_X5_act_fieldLink_96 rfl rfl dX5_act_34 ?_
        refine lv_iload_n hx hb dX5_act_37 rfl (lv_at hl 1 rfl) ?_
        obtain ⟨qf, f_q, hqf⟩ := f_s.2.1.2.2.2.2.2.1
        refine r_qald hx hb hK f_q (hasLaw_in h_1) (hqf _ (vp_lt (hasLaw_in h_1))) dX5_act_38 ?_
        refine lv_astore (lv' := [(4, .ref (ad (10 + 5 * law.toNatClampNeg))), (0, .ref (AD 0)), (1, .int law), (2, .int act9), (3, .int xx)]) hx hb dX5_act_39 hl (by decide) rfl (fun ls hl => ?_)
        refine lv_aload_n hx hb dX5_act_41 rfl (lv_at hl 1 rfl) ?_
        refine r_get (C := RX5) (T := TX5) (N := 4) hx hb hts i_X5_act_X5 hown hK f_s.1 rfl 3 (by decide) k_X5_act_fieldLink_24 rfl rfl dX5_act_42 ?_
        refine lv_aload hx hb dX5_act_45 (lv_at hl 0 rfl) ?_
        refine lv_aload hx hb dX5_act_47 (lv_at hl 0 rfl) ?_
        refine r_get (C := RX1) (T := TX1) (N := 8) hx hb hts i_X5_act_X1 hown hK (f_s.2.1.2.2.2.2.2.2.1 _ (vp_lt (hasLaw_in h_1))).1 rfl 1 (by decide) k_X5_act_fieldLink_112 rfl rfl dX5_act_49 ?_
        refine lv_iload_n hx hb dX5_act_52 rfl (lv_at hl 3 rfl) ?_
        refine lv_iload_n hx hb dX5_act_53 rfl (lv_at hl 4 rfl) ?_
        refine lv_iconst (v := 0) hx hb dX5_act_54 (by decide) ?_
        obtain ⟨⟨r_0, bo_0⟩, hy_0⟩ : ∃ z9, f_runP wd law.toNatClampNeg 41 (lKind (wLw wd law.toNatClampNeg)) act9 xx 0 bo = z9 := ⟨_, rfl⟩
        refine wr_call (va_runV (As := [.ref (ad (10 + 5 * law.toNatClampNeg)), .int (lKind (wLw wd law.toNatClampNeg)), .int act9, .int xx, .int 0]) (rest := []) hC (cAct.at (c_run l G Z AD ad td wd wt tk law.toNatClampNeg hN hAZ (vp_lt (hasLaw_in h_1)) 41 0 rfl) (lKind (wLw wd law.toNatClampNeg)) act9 xx 0 bo (by rw [Nat.zero_add]; exact runK_le (hkd _ h_1)) r_0 bo_0 hy_0) (cwV 5 hts gX5_act_X0_run rfl rfl rfl kd_X0_run ⟨Nat.le_of_ble_eq_true rfl, Nat.le_of_ble_eq_true rfl⟩) (a_preV hK hZ f_s.2.2.2.1 rfl f_s) rfl rfl hl.1 rfl (lv_room (Nat.le_of_ble_eq_true rfl)) dX5_act_55 ⟨Nat.zero_le _, Nat.zero_le _⟩) hS (fun q h => h) (fun H locs f_n hq hS => ?_)
        have hZ := hZ.kept (fun a9 h9 => hq a9 (fun z9 => h9 (hAZ a9 ((fun q h => h) a9 z9))))
        have f_s := (f_n : CAt G AD ad td wd wt tk (nI (0 + f_runK (lKind (wLw wd law.toNatClampNeg)) 41 (lKind (wLw wd law.toNatClampNeg)) act9)) bo_0 H)
        have hE9 : s_act wd law act9 xx rn bo = (r_0, (0 + f_runK (lKind (wLw wd law.toNatClampNeg)) 41 (lKind (wLw wd law.toNatClampNeg)) act9), bo_0) := (by (try unfold s_act); (repeat rw [if_pos h_1]); (repeat rw [if_neg h_2]); (repeat rw [if_pos h_3]); (try rw [hy_0]); (try dsimp only); first | done | rfl)
        exact wr_iret hx hb hr hlocks dX5_act_58 hS (by rw [hE9]; exact f_s) (by rw [hE9]; first | done | rfl)
      · refine lv_iconst (v := 0) hx hb dX5_act_28 (by decide) ?_
        have hE9 : s_act wd law act9 xx rn bo = (0, 0, bo) := (by (try unfold s_act); (repeat rw [if_pos h_1]); (repeat rw [if_neg h_2]); (repeat rw [if_neg h_3]); first | done | rfl)
        exact wr_iret hx hb hr hlocks dX5_act_29 hS (by rw [hE9]; exact f_s) (by rw [hE9]; first | done | rfl)
theorem c2_X5_act (l : Launch) (G : GG) (Z : AM) (AD ad td : Nat → Nat) (wd wt : WT) (tk : Bool) (rn : Nat) (bo : Nat → Int32) (law act9 xx : Int32) (hN : cN AD ad td) (hAZ : ∀ q : Nat, cA AD ad td q → Z.1 q) (hkd : ∀ law : Int32, w_hasLaw wd law = true → f_isKind (lKind (wLw wd law.toNatClampNeg)) = true) (r9 : Int32) (rn9 : Nat) (bo9 : Nat → Int32) (hy9 : s_act wd law act9 xx rn bo = (r9, rn9, bo9)) : Met l yX5_act wsX5_act { frames := 87, cells := 0, slots := 0, locals := 1790 } (aP G Z [.ref (AD 0), .int law, .int act9, .int xx] (fun H => CAt G AD ad td wd wt tk (nI rn) bo H)) (wrQ (some (.int r9)) (fun H => CAt G AD ad td wd wt tk (nI rn9) bo9 H) (cA AD ad td)) 0 0 (cA AD ad td) := by
  have h9 := c_X5_act l G Z AD ad td wd wt tk rn bo law act9 xx hN hAZ hkd
  rw [hy9] at h9
  exact h9

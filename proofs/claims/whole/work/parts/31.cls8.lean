theorem bod_in : ∀ i : Fin 7, ∀ j : Fin 3, ¬ (nI i.val * 3 + nI j.val < 0 ∨ 21 ≤ (nI i.val * 3 + nI j.val).toNatClampNeg) := by decide
theorem bodIx {k a : Int32} (h : f_isKind k = true) (h1 : ¬ a < 0) (h2 : ¬ 3 ≤ a) : vp_in (k * 3 + a) 21 := by
  have e1 := vp_lt (isKind_in h)
  have e0 : ¬ k < 0 := fun q => (isKind_in h) (Or.inl q)
  have e2 : a.toNatClampNeg ≤ 2 := clamp_le (n := 2) (by
    have h3 : a.toInt < 3 := by simpa using Int32.lt_iff_toInt_lt.mp (Int32.not_le.mp h2)
    exact Int32.le_iff_toInt_le.mpr (by show a.toInt ≤ 2; omega)) (by decide)
  have q := bod_in ⟨k.toNatClampNeg, e1⟩ ⟨a.toNatClampNeg, by omega⟩
  rw [nI_back e0, nI_back h1] at q
  exact q
theorem k_X0_holderOf_nini_48 : Cond.initialized RX5 ∈ wsX0_holderOf := by decide +kernel
theorem k_X0_holderOf_nsta_48 : Cond.static yX5_isKind ∈ wsX0_holderOf := by decide +kernel
def f_holdGo (act9 : Int32) : Nat → Nat → Int32 → Int32
  | 0, _, _ => (-1)
  | n + 1, k, at9 => if (f_isKind at9) = true then if act9 < 0 then (-1) else if 3 ≤ act9 then (-1) else if (tBod ((at9 * 3) + act9).toNatClampNeg) = 0 then f_holdGo act9 n (k + 1) (tAbv (at9).toNatClampNeg) else at9 else (-1)
theorem f_holdGo_0 (act9 : Int32) (k : Nat) (at9 : Int32) : f_holdGo act9 0 k at9 = ((-1)) := rfl
theorem f_holdGo_s (act9 : Int32) (n k : Nat) (at9 : Int32) : f_holdGo act9 (n + 1) k at9 = (if (f_isKind at9) = true then if act9 < 0 then (-1) else if 3 ≤ act9 then (-1) else if (tBod ((at9 * 3) + act9).toNatClampNeg) = 0 then f_holdGo act9 n (k + 1) (tAbv (at9).toNatClampNeg) else at9 else (-1)) := rfl
def f_holder (kind act9 : Int32) : Int32 := f_holdGo act9 7 0 kind
set_option maxHeartbeats 4000000 in
set_option maxRecDepth 100000 in
theorem c_X0_holderOf (l : Launch) (G : GG) (Z : AM) (kind act9 : Int32)  : Met l yX0_holderOf wsX0_holderOf { frames := 1, cells := 0, slots := 0, locals := 20 } (aP G Z [.int kind, .int act9] (fun H => True)) (roQ (some (.int (f_holder kind act9)))) 0 0 nF := by
  refine Met.ofW (cc := cX0_holderOf) (maxL := 4) (ret := (some .int)) (by decide) rfl ?_
  intro p e s m args below meth c s₁ Bd hml hv
  obtain ⟨rfl, hK, hZ, hB⟩ := hv
  have hx := Bd.exec
  have hb := Bd.bytes
  have hr := Bd.returns
  have hts := atoms_spec (ws := wsX0_holderOf) Bd.pre
  have hown : s.vm.findClass RX0 = some m.cls := findClass_of_methodNamed Bd.named
  have hlocks := Bd.notSynchronized
  have hC : CallFix p m c cX0_holderOf 4 s _ wsX0_holderOf RX0 := ⟨hx, hb, hml, hown, hts⟩
  have hl := lv_entry ([.int kind, .int act9]) (n := 4) (Nat.le_of_ble_eq_true rfl)
  rw [lg_entry_eq]
  generalize (lg_sl ([.int kind, .int act9]) ++ List.replicate (4 - (lg_sl ([.int kind, .int act9])).length) Slot.unset).toArray = ls at hl ⊢
  have hl : lv_has ls 4 [(0, .int kind), (1, .int act9)] := hl
  refine lv_iload_n hx hb dX0_holderOf_0 rfl (lv_at hl 0 rfl) ?_
  refine lv_istore_n (lv' := [(2, .int kind), (0, .int kind), (1, .int act9)]) hx hb dX0_holderOf_1 rfl hl (by decide) rfl (fun ls hl => ?_)
  refine lv_iconst (v := 0) hx hb dX0_holderOf_2 (by decide) ?_
  refine lv_istore_n (lv' := [(3, .int 0), (2, .int kind), (0, .int kind), (1, .int act9)]) hx hb dX0_holderOf_3 rfl hl (by decide) rfl (fun ls hl => ?_)
  refine loop_at (nL := 4) (α := Nat × Int32) (fun a9 => [(0, .int kind), (1, .int act9), (2, .int (a9.2)), (3, .int (nI (a9.1)))]) (fun a9 => a9.1 ≤ 7 ∧ f_holdGo act9 (7 - a9.1) a9.1 a9.2 = f_holdGo act9 7 0 kind) (fun a9 => 7 - a9.1) (0, kind) ⟨(by first | exact Nat.zero_le _ | decide | omega), rfl⟩ (lv_sub hl [2, 3, 1, 0] rfl) (fun a9 hI9 ih_k ls hl => ?_)
  obtain ⟨k, at9⟩ := a9
  obtain ⟨hk_k, hV⟩ : k ≤ 7 ∧ f_holdGo act9 (7 - k) k at9 = f_holdGo act9 7 0 kind := hI9
  have hl : lv_has ls 4 [(0, .int kind), (1, .int act9), (2, .int at9), (3, .int (nI k))] := hl
  refine lv_iload_n hx hb dX0_holderOf_4 rfl (lv_at hl 3 rfl) ?_
  refine lv_bipush (v := 7) hx hb dX0_holderOf_5 (by decide +kernel) ?_
  refine lv_icmp_ge (tgt := 52) hx hb dX0_holderOf_7 (by decide) (fun h_1 => ?_) (fun h_1 => ?_)
  · have hN_k : k = 7 := ge_ex (N := 7) rfl h_1 hk_k (by omega)
    subst hN_k
    rw [Nat.sub_self] at hV
    refine lv_iconst (v := (-1)) hx hb dX0_holderOf_52 (by decide) ?_
    exact ro_iret hx hb hr hlocks dX0_holderOf_53 (by (try unfold f_holder); rw [← hV, f_holdGo_0]; first | done | rfl)
  · have hlt_k : k < 7 := ge_in (N := 7) rfl h_1 hk_k (by omega)
    obtain ⟨n9, hn9⟩ : ∃ n9, 7 - k = n9 + 1 := ⟨7 - k - 1, by omega⟩
    rw [hn9] at hV
    refine lv_iload_n hx hb dX0_holderOf_10 rfl (lv_at hl 2 rfl) ?_
    refine ro_call (va_runSN (As := [.int at9]) (rest := []) hC (c_X5_isKind l G at9) ⟨va_cnB 1 hts gX0_holderOf_X5_isKind_n48 rfl rfl rfl (hK.2 _ (List.mem_of_getElem? (i := 3) rfl)) (hts _ k_X0_holderOf_nini_48) kd_X5_isKind ⟨Nat.le_of_ble_eq_true rfl, Nat.le_of_ble_eq_true rfl⟩, hts _ k_X0_holderOf_nsta_48, trivial⟩ (ro_preS hK trivial) rfl rfl hl.1 rfl (lv_room (Nat.le_of_ble_eq_true rfl)) dX0_holderOf_11 ⟨Nat.zero_le _, Nat.zero_le _⟩) ?_
    refine bz_eq (tgt := 52) hx hb dX0_holderOf_14 (by decide) (fun h_2 => ?_) (fun h_2 => ?_)
    · refine lv_iconst (v := (-1)) hx hb dX0_holderOf_52 (by decide) ?_
      exact ro_iret hx hb hr hlocks dX0_holderOf_53 (by (try unfold f_holder); rw [← hV, f_holdGo_s]; (repeat rw [if_neg h_1]); (repeat rw [if_neg h_2]); first | done | rfl)
    · refine lv_iload_n hx hb dX0_holderOf_17 rfl (lv_at hl 1 rfl) ?_
      refine lv_if_lt (tgt := 52) hx hb dX0_holderOf_18 (by decide) (fun h_3 => ?_) (fun h_3 => ?_)
      · refine lv_iconst (v := (-1)) hx hb dX0_holderOf_52 (by decide) ?_
        exact ro_iret hx hb hr hlocks dX0_holderOf_53 (by (try unfold f_holder); rw [← hV, f_holdGo_s]; (repeat rw [if_neg h_1]); (repeat rw [if_pos h_2]); (repeat rw [if_pos h_3]); first | done | rfl)
      · refine lv_iload_n hx hb dX0_holderOf_21 rfl (lv_at hl 1 rfl) ?_
        refine lv_iconst (v := 3) hx hb dX0_holderOf_22 (by decide) ?_
        refine lv_icmp_ge (tgt := 52) hx hb dX0_holderOf_23 (by decide) (fun h_4 => ?_) (fun h_4 => ?_)
        · refine lv_iconst (v := (-1)) hx hb dX0_holderOf_52 (by decide) ?_
          exact ro_iret hx hb hr hlocks dX0_holderOf_53 (by (try unfold f_holder); rw [← hV, f_holdGo_s]; (repeat rw [if_neg h_1]); (repeat rw [if_pos h_2]); (repeat rw [if_neg h_3]); (repeat rw [if_pos h_4]); first | done | rfl)
        · refine a_getsN hx hb hZ.2.2.2.2.1.1 hown (hK.2 _ (List.mem_of_getElem? (i := 1) rfl)) dX0_holderOf_26 ?_
          refine lv_iload_n hx hb dX0_holderOf_29 rfl (lv_at hl 2 rfl) ?_
          refine lv_iconst (v := 3) hx hb dX0_holderOf_30 (by decide) ?_
          refine lv_imul hx hb dX0_holderOf_31 ?_
          refine lv_iload_n hx hb dX0_holderOf_32 rfl (lv_at hl 1 rfl) ?_
          refine lv_iadd hx hb dX0_holderOf_33 ?_
          refine a_iald hx hb hZ.2.2.2.2.1.2 (bodIx h_2 h_3 h_4) dX0_holderOf_34 ?_
          refine lv_if_eq (tgt := 40) hx hb dX0_holderOf_35 (by decide) (fun h_5 => ?_) (fun h_5 => ?_)
          · refine a_getsN hx hb hZ.2.2.2.1.1 hown (hK.2 _ (List.mem_of_getElem? (i := 0) rfl)) dX0_holderOf_40 ?_
            refine lv_iload_n hx hb dX0_holderOf_43 rfl (lv_at hl 2 rfl) ?_
            refine a_iald hx hb hZ.2.2.2.1.2 (isKind_in h_2) dX0_holderOf_44 ?_
            refine lv_istore_n (lv' := [(2, .int (tAbv (at9).toNatClampNeg)), (0, .int kind), (1, .int act9), (3, .int (nI k))]) hx hb dX0_holderOf_45 rfl hl (by decide) rfl (fun ls hl => ?_)
            refine lv_iinc (v := (nI k) + 1) (lv' := [(3, .int ((nI k) + 1)), (2, .int (tAbv (at9).toNatClampNeg)), (0, .int kind), (1, .int act9)]) hx hb dX0_holderOf_46 hl (k := 3) rfl rfl (by decide) rfl (fun ls hl => ?_)
            refine lv_goto (tgt := 4) hx hb dX0_holderOf_49 (by decide) ?_
            have hE : f_holdGo act9 n9 (k + 1) (tAbv (at9).toNatClampNeg) = f_holdGo act9 7 0 kind := (by rw [← hV, f_holdGo_s]; (repeat rw [if_pos h_2]); (repeat rw [if_neg h_3]); (repeat rw [if_neg h_4]); (repeat rw [if_pos h_5]); first | done | rfl)
            refine ih_k ((k + 1, tAbv (at9).toNatClampNeg)) ⟨(show k + 1 ≤ 7 by omega), (by show f_holdGo act9 (7 - (k + 1)) (k + 1) (tAbv (at9).toNatClampNeg) = _; rw [show 7 - (k + 1) = n9 by omega]; exact hE)⟩ (show 7 - (k + 1) < 7 - k by omega) ls ?_
            show lv_has ls 4 [(0, .int kind), (1, .int act9), (2, .int (tAbv (at9).toNatClampNeg)), (3, .int (nI (k + 1)))]
            rw [nI_succ]
            exact lv_sub hl [2, 3, 1, 0] rfl
          · refine lv_iload_n hx hb dX0_holderOf_38 rfl (lv_at hl 2 rfl) ?_
            exact ro_iret hx hb hr hlocks dX0_holderOf_39 (by (try unfold f_holder); rw [← hV, f_holdGo_s]; (repeat rw [if_neg h_1]); (repeat rw [if_pos h_2]); (repeat rw [if_neg h_3]); (repeat rw [if_neg h_4]); (repeat rw [if_neg h_5]); first | done | rfl)

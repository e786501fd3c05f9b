/-- the STUFFs of the reference's overs are STUFFs -/
def mO (s : Nat → Int32) : Prop := ∀ i : Nat, i < 80 → ib 0 3 (s (546 + 3 * i)) ∧ ib 0 3 (s (546 + 3 * i + 1))
theorem ib_lt {k n : Nat} (h : k < n) (hn : n < 2 ^ 31) : ib 0 ((n : Int) - 1) (nI k) := by
  have e : (nI k).toInt = k := Int32.toInt_ofNat_of_lt (by omega)
  exact ⟨by rw [e]; omega, by rw [e]; omega⟩
theorem ib.nI_eq {lo hi : Int} {x : Int32} (h : ib lo hi x) (h0 : 0 ≤ lo) : ∃ n : Nat, x = nI n ∧ lo ≤ n ∧ (n : Int) ≤ hi := by
  have hc := h.clamp h0
  have h2 := h.1
  refine ⟨x.toNatClampNeg, (nI_back ?_).symm, hc.1, hc.2⟩
  intro q
  have h3 : x.toInt < 0 := by simpa using Int32.lt_iff_toInt_lt.mp q
  omega
theorem over_at {l : Int32} {k : Nat} (hl : ib 0 7 l) (hk : k < 10) : ∃ i : Nat, i < 80 ∧ (546 + (3 * ((10 * l) + (nI k))) : Int32).toNatClampNeg = 546 + 3 * i := by
  obtain ⟨n, rfl, h1, h2⟩ := hl.nI_eq (by decide)
  refine ⟨10 * n + k, by omega, ?_⟩
  rw [show (546 : Int32) + 3 * (10 * nI n + nI k) = nI (546 + 3 * (10 * n + k)) from by
    rw [show (10 : Int32) = nI 10 from rfl, show (3 : Int32) = nI 3 from rfl, show (546 : Int32) = nI 546 from rfl, pk_mul, nI_add, pk_mul, nI_add]]
  exact nI_clamp (by omega)
theorem over_ib {s : Nat → Int32} (hO : mO s) {l : Int32} {k : Nat} (hl : ib 0 7 l) (hk : k < 10) : ib 0 3 (s (546 + (3 * ((10 * l) + (nI k))) : Int32).toNatClampNeg) := by
  obtain ⟨i, hi, e⟩ := over_at hl hk
  rw [e]
  exact (hO i hi).1
theorem i_X6_isKept_X6 : ∀ w ∈ wsX60, w ∈ wsX6_isKept := fun _ h => List.mem_cons_of_mem _ (List.mem_append_right _ h)
theorem k_X6_isKept_fieldLink_9 : Cond.fieldLink RX6 9 "SameWaterModel" "s" "[I" ∈ wsX6_isKept := by decide +kernel
def r_keptIt_st (x : MT) (ll cc ss gg : Int32) (k : Nat) (kp : Bool) : Bool := (if kp = true then true else if ((mS x) ((546 + (3 * ((10 * ll) + (nI k)))) + 1).toNatClampNeg) = ss then if ((mS x) ((138 + (4 * cc)) + ((mS x) (546 + (3 * ((10 * ll) + (nI k)))).toNatClampNeg)).toNatClampNeg) = (-1) then false else if (gg - ((mS x) ((138 + (4 * cc)) + ((mS x) (546 + (3 * ((10 * ll) + (nI k)))).toNatClampNeg)).toNatClampNeg)) < ((mS x) ((546 + (3 * ((10 * ll) + (nI k)))) + 2).toNatClampNeg) then false else true else false)
def r_keptIt (x : MT) (ll cc ss gg : Int32) (kp0 : Bool) : Nat → Bool
  | 0 => kp0
  | k + 1 => r_keptIt_st x ll cc ss gg k (r_keptIt x ll cc ss gg kp0 k)
def r_isKept (x : MT) (ll : Int32) (cc : Int32) (ss : Int32) (gg : Int32) : Bool := (r_keptIt x ll cc ss gg (if ((mS x) ((506 + (4 * ll)) + ss).toNatClampNeg) ≤ gg then true else if ((mS x) ((138 + (4 * cc)) + ss).toNatClampNeg) = (-1) then false else if gg < ((mS x) ((138 + (4 * cc)) + ss).toNatClampNeg) then false else true) (((mS x) (538 + ll).toNatClampNeg).toNatClampNeg))
set_option maxHeartbeats 4000000 in
set_option maxRecDepth 100000 in
theorem c_X6_isKept (l : Launch) (G : GG) (M : Nat → Nat) (x : MT) (ll : Int32) (cc : Int32) (ss : Int32) (gg : Int32)  (hI : mI (mS x)) (hO : mO (mS x)) (iL : ib 0 7 ll) (iC : ib 0 7 cc) (iS : ib 0 3 ss) : Met l yX6_isKept wsX6_isKept { frames := 0, cells := 0, slots := 0, locals := 0 } (roP G [.ref (M 0), .int ll, .int cc, .int ss, .int gg] (fun H => MAt G M x H)) (roQ (some (.int (b2i (r_isKept x ll cc ss gg))))) 0 0 nF := by
  refine Met.ofW (cc := cX6_isKept) (maxL := 10) (ret := (some .boolean)) (by decide) rfl ?_
  intro p e s m args below meth c s₁ Bd hml hv
  obtain ⟨rfl, hK, hB⟩ := hv
  have hx := Bd.exec
  have hb := Bd.bytes
  have hr := Bd.returns
  have hts := atoms_spec (ws := wsX6_isKept) Bd.pre
  have hown : s.vm.findClass RX6 = some m.cls := findClass_of_methodNamed Bd.named
  have hlocks := Bd.notSynchronized
  have hC : CallFix p m c cX6_isKept 10 s _ wsX6_isKept RX6 := ⟨hx, hb, hml, hown, hts⟩
  have hl := lv_entry ([.ref (M 0), .int ll, .int cc, .int ss, .int gg]) (n := 10) (Nat.le_of_ble_eq_true rfl)
  rw [lg_entry_eq]
  generalize (lg_sl ([.ref (M 0), .int ll, .int cc, .int ss, .int gg]) ++ List.replicate (10 - (lg_sl ([.ref (M 0), .int ll, .int cc, .int ss, .int gg])).length) Slot.unset).toArray = ls at hl ⊢
  have hl : lv_has ls 10 [(0, .ref (M 0)), (1, .int ll), (2, .int cc), (3, .int ss), (4, .int gg)] := hl
  have hN8 : ib 0 10 ((mS x) (538 + ll).toNatClampNeg) := mI.at (lo := 538) (hi := 545) (x := 0) (y := 10) hI (ib_add (ib_nI (n := 538) (by decide)) iL (by decide) (by decide)) (by decide) (by decide) (by decide)
  have hN9 : ((mS x) (538 + ll).toNatClampNeg).toNatClampNeg ≤ 10 := by have := (hN8.clamp (by decide)).2; omega
  refine lv_aload_n hx hb dX6_isKept_0 rfl (lv_at hl 0 rfl) ?_
  refine r_get (C := RX6) (T := TX6) (N := 18) hx hb hts i_X6_isKept_X6 hown hK hB.1 rfl 1 (by decide) k_X6_isKept_fieldLink_9 rfl rfl dX6_isKept_1 ?_
  refine lv_sipush (v := 138) hx hb dX6_isKept_4 (by decide +kernel) ?_
  refine lv_iconst (v := 4) hx hb dX6_isKept_7 (by decide) ?_
  refine lv_iload_n hx hb dX6_isKept_8 rfl (lv_at hl 2 rfl) ?_
  refine lv_imul hx hb dX6_isKept_9 ?_
  refine lv_iadd hx hb dX6_isKept_10 ?_
  refine lv_iload_n hx hb dX6_isKept_11 rfl (lv_at hl 3 rfl) ?_
  refine lv_iadd hx hb dX6_isKept_12 ?_
  refine r_iald hx hb hK hB.2.1 (vp_ib (lo := 138) (hi := 169) (ib_add (ib_add (ib_nI (n := 138) (by decide)) (ib_mulk (k := 4) iC (by decide) (by decide) (by decide)) (by decide) (by decide)) iS (by decide) (by decide)) (by decide) (by decide)) dX6_isKept_13 ?_
  refine lv_istore (lv' := [(5, .int ((mS x) ((138 + (4 * cc)) + ss).toNatClampNeg)), (0, .ref (M 0)), (1, .int ll), (2, .int cc), (3, .int ss), (4, .int gg)]) hx hb dX6_isKept_14 hl (by decide) rfl (fun ls hl => ?_)
  refine lv_iload hx hb dX6_isKept_16 (lv_at hl 5 rfl) ?_
  refine lv_aload_n hx hb dX6_isKept_18 rfl (lv_at hl 1 rfl) ?_
  refine r_get (C := RX6) (T := TX6) (N := 18) hx hb hts i_X6_isKept_X6 hown hK hB.1 rfl 1 (by decide) k_X6_isKept_fieldLink_9 rfl rfl dX6_isKept_19 ?_
  refine lv_sipush (v := 506) hx hb dX6_isKept_22 (by decide +kernel) ?_
  refine lv_iconst (v := 4) hx hb dX6_isKept_25 (by decide) ?_
  refine lv_iload_n hx hb dX6_isKept_26 rfl (lv_at hl 2 rfl) ?_
  refine lv_imul hx hb dX6_isKept_27 ?_
  refine lv_iadd hx hb dX6_isKept_28 ?_
  refine lv_iload_n hx hb dX6_isKept_29 rfl (lv_at hl 4 rfl) ?_
  refine lv_iadd hx hb dX6_isKept_30 ?_
  refine r_iald hx hb hK hB.2.1 (vp_ib (lo := 506) (hi := 537) (ib_add (ib_add (ib_nI (n := 506) (by decide)) (ib_mulk (k := 4) iL (by decide) (by decide) (by decide)) (by decide) (by decide)) iS (by decide) (by decide)) (by decide) (by decide)) dX6_isKept_31 ?_
  refine join_at (nL := 10) 53 [(5, .int ((mS x) ((138 + (4 * cc)) + ss).toNatClampNeg)), (0, .ref (M 0)), (1, .int ll), (2, .int cc), (3, .int ss), (4, .int gg)] [.int (b2i (if ((mS x) ((506 + (4 * ll)) + ss).toNatClampNeg) ≤ gg then true else if ((mS x) ((138 + (4 * cc)) + ss).toNatClampNeg) = (-1) then false else if gg < ((mS x) ((138 + (4 * cc)) + ss).toNatClampNeg) then false else true))] (fun ls hl => ?_) (fun J_1 => ?_)
  · refine lv_istore (lv' := [(6, .int (b2i (if ((mS x) ((506 + (4 * ll)) + ss).toNatClampNeg) ≤ gg then true else if ((mS x) ((138 + (4 * cc)) + ss).toNatClampNeg) = (-1) then false else if gg < ((mS x) ((138 + (4 * cc)) + ss).toNatClampNeg) then false else true))), (5, .int ((mS x) ((138 + (4 * cc)) + ss).toNatClampNeg)), (0, .ref (M 0)), (1, .int ll), (2, .int cc), (3, .int ss), (4, .int gg)]) hx hb dX6_isKept_53 hl (by decide) rfl (fun ls hl => ?_)
    refine lv_iconst (v := 0) hx hb dX6_isKept_55 (by decide) ?_
    refine lv_istore (lv' := [(7, .int 0), (6, .int (b2i (if ((mS x) ((506 + (4 * ll)) + ss).toNatClampNeg) ≤ gg then true else if ((mS x) ((138 + (4 * cc)) + ss).toNatClampNeg) = (-1) then false else if gg < ((mS x) ((138 + (4 * cc)) + ss).toNatClampNeg) then false else true))), (5, .int ((mS x) ((138 + (4 * cc)) + ss).toNatClampNeg)), (0, .ref (M 0)), (1, .int ll), (2, .int cc), (3, .int ss), (4, .int gg)]) hx hb dX6_isKept_56 hl (by decide) rfl (fun ls hl => ?_)
    refine loop_at (nL := 10) (fun k : Nat => [(0, .ref (M 0)), (1, .int ll), (2, .int cc), (3, .int ss), (4, .int gg), (5, .int ((mS x) ((138 + (4 * cc)) + ss).toNatClampNeg)), (6, .int (b2i (r_keptIt x ll cc ss gg (if ((mS x) ((506 + (4 * ll)) + ss).toNatClampNeg) ≤ gg then true else if ((mS x) ((138 + (4 * cc)) + ss).toNatClampNeg) = (-1) then false else if gg < ((mS x) ((138 + (4 * cc)) + ss).toNatClampNeg) then false else true) k))), (7, .int (nI k))]) (fun k => k ≤ ((mS x) (538 + ll).toNatClampNeg).toNatClampNeg) (fun k => ((mS x) (538 + ll).toNatClampNeg).toNatClampNeg - k) 0 (Nat.zero_le _) (lv_sub hl [3, 4, 5, 6, 7, 2, 1, 0] rfl) (fun k hk_k ih_k ls hl => ?_)
    have hl : lv_has ls 10 [(0, .ref (M 0)), (1, .int ll), (2, .int cc), (3, .int ss), (4, .int gg), (5, .int ((mS x) ((138 + (4 * cc)) + ss).toNatClampNeg)), (6, .int (b2i (r_keptIt x ll cc ss gg (if ((mS x) ((506 + (4 * ll)) + ss).toNatClampNeg) ≤ gg then true else if ((mS x) ((138 + (4 * cc)) + ss).toNatClampNeg) = (-1) then false else if gg < ((mS x) ((138 + (4 * cc)) + ss).toNatClampNeg) then false else true) k))), (7, .int (nI k))] := hl
    refine lv_iload hx hb dX6_isKept_58 (lv_at hl 7 rfl) ?_
    refine lv_aload_n hx hb dX6_isKept_60 rfl (lv_at hl 0 rfl) ?_
    refine r_get (C := RX6) (T := TX6) (N := 18) hx hb hts i_X6_isKept_X6 hown hK hB.1 rfl 1 (by decide) k_X6_isKept_fieldLink_9 rfl rfl dX6_isKept_61 ?_
    refine lv_sipush (v := 538) hx hb dX6_isKept_64 (by decide +kernel) ?_
    refine lv_iload_n hx hb dX6_isKept_67 rfl (lv_at hl 1 rfl) ?_
    refine lv_iadd hx hb dX6_isKept_68 ?_
    refine r_iald hx hb hK hB.2.1 (vp_ib (lo := 538) (hi := 545) (ib_add (ib_nI (n := 538) (by decide)) iL (by decide) (by decide)) (by decide) (by decide)) dX6_isKept_69 ?_
    refine lv_icmp_ge (tgt := 164) hx hb dX6_isKept_70 (by decide) (fun h_2 => ?_) (fun h_2 => ?_)
    · have hN_k : k = ((mS x) (538 + ll).toNatClampNeg).toNatClampNeg := ge_ex (N := ((mS x) (538 + ll).toNatClampNeg).toNatClampNeg) (nI_back (fun q => by have h3 := Int32.lt_iff_toInt_lt.mp q; have h4 := hN8.1; have h5 : (0 : Int32).toInt = 0 := rfl; omega)).symm h_2 hk_k (by omega)
      subst hN_k
      refine lv_iload hx hb dX6_isKept_164 (lv_at hl 6 rfl) ?_
      exact ro_zret hx hb hr hlocks dX6_isKept_166 rfl
    · have hlt_k : k < ((mS x) (538 + ll).toNatClampNeg).toNatClampNeg := ge_in (N := ((mS x) (538 + ll).toNatClampNeg).toNatClampNeg) (nI_back (fun q => by have h3 := Int32.lt_iff_toInt_lt.mp q; have h4 := hN8.1; have h5 : (0 : Int32).toInt = 0 := rfl; omega)).symm h_2 hk_k (by omega)
      refine lv_sipush (v := 546) hx hb dX6_isKept_73 (by decide +kernel) ?_
      refine lv_iconst (v := 3) hx hb dX6_isKept_76 (by decide) ?_
      refine lv_bipush (v := 10) hx hb dX6_isKept_77 (by decide +kernel) ?_
      refine lv_iload_n hx hb dX6_isKept_79 rfl (lv_at hl 1 rfl) ?_
      refine lv_imul hx hb dX6_isKept_80 ?_
      refine lv_iload hx hb dX6_isKept_81 (lv_at hl 7 rfl) ?_
      refine lv_iadd hx hb dX6_isKept_83 ?_
      refine lv_imul hx hb dX6_isKept_84 ?_
      refine lv_iadd hx hb dX6_isKept_85 ?_
      refine lv_istore (lv' := [(8, .int (546 + (3 * ((10 * ll) + (nI k))))), (0, .ref (M 0)), (1, .int ll), (2, .int cc), (3, .int ss), (4, .int gg), (5, .int ((mS x) ((138 + (4 * cc)) + ss).toNatClampNeg)), (6, .int (b2i (r_keptIt x ll cc ss gg (if ((mS x) ((506 + (4 * ll)) + ss).toNatClampNeg) ≤ gg then true else if ((mS x) ((138 + (4 * cc)) + ss).toNatClampNeg) = (-1) then false else if gg < ((mS x) ((138 + (4 * cc)) + ss).toNatClampNeg) then false else true) k))), (7, .int (nI k))]) hx hb dX6_isKept_86 hl (by decide) rfl (fun ls hl => ?_)
      refine lv_aload_n hx hb dX6_isKept_88 rfl (lv_at hl 1 rfl) ?_
      refine r_get (C := RX6) (T := TX6) (N := 18) hx hb hts i_X6_isKept_X6 hown hK hB.1 rfl 1 (by decide) k_X6_isKept_fieldLink_9 rfl rfl dX6_isKept_89 ?_
      refine lv_sipush (v := 138) hx hb dX6_isKept_92 (by decide +kernel) ?_
      refine lv_iconst (v := 4) hx hb dX6_isKept_95 (by decide) ?_
      refine lv_iload_n hx hb dX6_isKept_96 rfl (lv_at hl 3 rfl) ?_
      refine lv_imul hx hb dX6_isKept_97 ?_
      refine lv_iadd hx hb dX6_isKept_98 ?_
      refine lv_aload_n hx hb dX6_isKept_99 rfl (lv_at hl 1 rfl) ?_
      refine r_get (C := RX6) (T := TX6) (N := 18) hx hb hts i_X6_isKept_X6 hown hK hB.1 rfl 1 (by decide) k_X6_isKept_fieldLink_9 rfl rfl dX6_isKept_100 ?_
      refine lv_iload hx hb dX6_isKept_103 (lv_at hl 0 rfl) ?_
      refine r_iald hx hb hK hB.2.1 (vp_ib (lo := 546) (hi := 783) (ib_add (ib_nI (n := 546) (by decide)) (ib_mulk (k := 3) (ib_add (ib_mulk (k := 10) iL (by decide) (by decide) (by decide)) (ib_lt (n := 10) (by omega) (by decide)) (by decide) (by decide)) (by decide) (by decide) (by decide)) (by decide) (by decide)) (by decide) (by decide)) dX6_isKept_105 ?_
      refine lv_iadd hx hb dX6_isKept_106 ?_
      refine r_iald hx hb hK hB.2.1 (vp_ib (lo := 138) (hi := 169) (ib_add (ib_add (ib_nI (n := 138) (by decide)) (ib_mulk (k := 4) iC (by decide) (by decide) (by decide)) (by decide) (by decide)) (over_ib hO iL (by omega)) (by decide) (by decide)) (by decide) (by decide)) dX6_isKept_107 ?_
      refine lv_istore (lv' := [(9, .int ((mS x) ((138 + (4 * cc)) + ((mS x) (546 + (3 * ((10 * ll) + (nI k)))).toNatClampNeg)).toNatClampNeg)), (8, .int (546 + (3 * ((10 * ll) + (nI k))))), (0, .ref (M 0)), (1, .int ll), (2, .int cc), (3, .int ss), (4, .int gg), (5, .int ((mS x) ((138 + (4 * cc)) + ss).toNatClampNeg)), (6, .int (b2i (r_keptIt x ll cc ss gg (if ((mS x) ((506 + (4 * ll)) + ss).toNatClampNeg) ≤ gg then true else if ((mS x) ((138 + (4 * cc)) + ss).toNatClampNeg) = (-1) then false else if gg < ((mS x) ((138 + (4 * cc)) + ss).toNatClampNeg) then false else true) k))), (7, .int (nI k))]) hx hb dX6_isKept_108 hl (by decide) rfl (fun ls hl => ?_)
      refine lv_iload hx hb dX6_isKept_110 (lv_at hl 8 rfl) ?_
      refine join_at (nL := 10) 156 [(9, .int ((mS x) ((138 + (4 * cc)) + ((mS x) (546 + (3 * ((10 * ll) + (nI k)))).toNatClampNeg)).toNatClampNeg)), (8, .int (546 + (3 * ((10 * ll) + (nI k))))), (0, .ref (M 0)), (1, .int ll), (2, .int cc), (3, .int ss), (4, .int gg), (5, .int ((mS x) ((138 + (4 * cc)) + ss).toNatClampNeg)), (6, .int (b2i (r_keptIt x ll cc ss gg (if ((mS x) ((506 + (4 * ll)) + ss).toNatClampNeg) ≤ gg then true else if ((mS x) ((138 + (4 * cc)) + ss).toNatClampNeg) = (-1) then false else if gg < ((mS x) ((138 + (4 * cc)) + ss).toNatClampNeg) then false else true) k))), (7, .int (nI k))] [.int (b2i (if (r_keptIt x ll cc ss gg (if ((mS x) ((506 + (4 * ll)) + ss).toNatClampNeg) ≤ gg then true else if ((mS x) ((138 + (4 * cc)) + ss).toNatClampNeg) = (-1) then false else if gg < ((mS x) ((138 + (4 * cc)) + ss).toNatClampNeg) then false else true) k) = true then true else if ((mS x) ((546 + (3 * ((10 * ll) + (nI k)))) + 1).toNatClampNeg) = ss then if ((mS x) ((138 + (4 * cc)) + ((mS x) (546 + (3 * ((10 * ll) + (nI k)))).toNatClampNeg)).toNatClampNeg) = (-1) then false else if (gg - ((mS x) ((138 + (4 * cc)) + ((mS x) (546 + (3 * ((10 * ll) + (nI k)))).toNatClampNeg)).toNatClampNeg)) < ((mS x) ((546 + (3 * ((10 * ll) + (nI k)))) + 2).toNatClampNeg) then false else true else false))] (fun ls hl => ?_) (fun J_3 => ?_)
      · refine lv_istore (lv' := [(6, .int (b2i (if (r_keptIt x ll cc ss gg (if ((mS x) ((506 + (4 * ll)) + ss).toNatClampNeg) ≤ gg then true else if ((mS x) ((138 + (4 * cc)) + ss).toNatClampNeg) = (-1) then false else if gg < ((mS x) ((138 + (4 * cc)) + ss).toNatClampNeg) then false else true) k) = true then true else if ((mS x) ((546 + (3 * ((10 * ll) + (nI k)))) + 1).toNatClampNeg) = ss then if ((mS x) ((138 + (4 * cc)) + ((mS x) (546 + (3 * ((10 * ll) + (nI k)))).toNatClampNeg)).toNatClampNeg) = (-1) then false else if (gg - ((mS x) ((138 + (4 * cc)) + ((mS x) (546 + (3 * ((10 * ll) + (nI k)))).toNatClampNeg)).toNatClampNeg)) < ((mS x) ((546 + (3 * ((10 * ll) + (nI k)))) + 2).toNatClampNeg) then false else true else false))), (9, .int ((mS x) ((138 + (4 * cc)) + ((mS x) (546 + (3 * ((10 * ll) + (nI k)))).toNatClampNeg)).toNatClampNeg)), (8, .int (546 + (3 * ((10 * ll) + (nI k))))), (0, .ref (M 0)), (1, .int ll), (2, .int cc), (3, .int ss), (4, .int gg), (5, .int ((mS x) ((138 + (4 * cc)) + ss).toNatClampNeg)), (7, .int (nI k))]) hx hb dX6_isKept_156 hl (by decide) rfl (fun ls hl => ?_)
        refine lv_iinc (v := (nI k) + 1) (lv' := [(7, .int ((nI k) + 1)), (6, .int (b2i (if (r_keptIt x ll cc ss gg (if ((mS x) ((506 + (4 * ll)) + ss).toNatClampNeg) ≤ gg then true else if ((mS x) ((138 + (4 * cc)) + ss).toNatClampNeg) = (-1) then false else if gg < ((mS x) ((138 + (4 * cc)) + ss).toNatClampNeg) then false else true) k) = true then true else if ((mS x) ((546 + (3 * ((10 * ll) + (nI k)))) + 1).toNatClampNeg) = ss then if ((mS x) ((138 + (4 * cc)) + ((mS x) (546 + (3 * ((10 * ll) + (nI k)))).toNatClampNeg)).toNatClampNeg) = (-1) then false else if (gg - ((mS x) ((138 + (4 * cc)) + ((mS x) (546 + (3 * ((10 * ll) + (nI k)))).toNatClampNeg)).toNatClampNeg)) < ((mS x) ((546 + (3 * ((10 * ll) + (nI k)))) + 2).toNatClampNeg) then false else true else false))), (9, .int ((mS x) ((138 + (4 * cc)) + ((mS x) (546 + (3 * ((10 * ll) + (nI k)))).toNatClampNeg)).toNatClampNeg)), (8, .int (546 + (3 * ((10 * ll) + (nI k))))), (0, .ref (M 0)), (1, .int ll), (2, .int cc), (3, .int ss), (4, .int gg), (5, .int ((mS x) ((138 + (4 * cc)) + ss).toNatClampNeg))]) hx hb dX6_isKept_158 hl (k := 9) rfl rfl (by decide) rfl (fun ls hl => ?_)
        refine lv_goto (tgt := 58) hx hb dX6_isKept_161 (by decide) ?_
        have hE : (r_keptIt x ll cc ss gg (if ((mS x) ((506 + (4 * ll)) + ss).toNatClampNeg) ≤ gg then true else if ((mS x) ((138 + (4 * cc)) + ss).toNatClampNeg) = (-1) then false else if gg < ((mS x) ((138 + (4 * cc)) + ss).toNatClampNeg) then false else true) (k + 1)) = (if (r_keptIt x ll cc ss gg (if ((mS x) ((506 + (4 * ll)) + ss).toNatClampNeg) ≤ gg then true else if ((mS x) ((138 + (4 * cc)) + ss).toNatClampNeg) = (-1) then false else if gg < ((mS x) ((138 + (4 * cc)) + ss).toNatClampNeg) then false else true) k) = true then true else if ((mS x) ((546 + (3 * ((10 * ll) + (nI k)))) + 1).toNatClampNeg) = ss then if ((mS x) ((138 + (4 * cc)) + ((mS x) (546 + (3 * ((10 * ll) + (nI k)))).toNatClampNeg)).toNatClampNeg) = (-1) then false else if (gg - ((mS x) ((138 + (4 * cc)) + ((mS x) (546 + (3 * ((10 * ll) + (nI k)))).toNatClampNeg)).toNatClampNeg)) < ((mS x) ((546 + (3 * ((10 * ll) + (nI k)))) + 2).toNatClampNeg) then false else true else false) := (by show r_keptIt_st x ll cc ss gg k (r_keptIt x ll cc ss gg (if ((mS x) ((506 + (4 * ll)) + ss).toNatClampNeg) ≤ gg then true else if ((mS x) ((138 + (4 * cc)) + ss).toNatClampNeg) = (-1) then false else if gg < ((mS x) ((138 + (4 * cc)) + ss).toNatClampNeg) then false else true) k) = _; (try unfold r_keptIt_st); first | done | rfl)
        refine ih_k (k + 1) (show k + 1 ≤ ((mS x) (538 + ll).toNatClampNeg).toNatClampNeg by omega) (by omega) ls ?_
        show lv_has ls 10 [(0, .ref (M 0)), (1, .int ll), (2, .int cc), (3, .int ss), (4, .int gg), (5, .int ((mS x) ((138 + (4 * cc)) + ss).toNatClampNeg)), (6, .int (b2i (r_keptIt x ll cc ss gg (if ((mS x) ((506 + (4 * ll)) + ss).toNatClampNeg) ≤ gg then true else if ((mS x) ((138 + (4 * cc)) + ss).toNatClampNeg) = (-1) then false else if gg < ((mS x) ((138 + (4 * cc)) + ss).toNatClampNeg) then false else true) (k + 1)))), (7, .int (nI (k + 1)))]
        rw [nI_succ, hE]
        exact lv_sub hl [4, 5, 6, 7, 8, 9, 1, 0] rfl
      · refine bz_ne (tgt := 151) hx hb dX6_isKept_112 (by decide) (fun h_4 => ?_) (fun h_4 => ?_)
        · refine lv_iconst (v := 1) hx hb dX6_isKept_151 (by decide) ?_
          refine lv_goto (tgt := 156) hx hb dX6_isKept_152 (by decide) ?_
          have hJ := J_3; (repeat rw [if_pos h_4] at hJ)
          first | exact hJ ls (lv_sub hl [0, 1, 2, 3, 4, 5, 6, 7, 8, 9] rfl) | ((repeat rw [if_pos h_4] at hl); (repeat rw [if_pos h_4]); exact hJ ls (lv_sub hl [0, 1, 2, 3, 4, 5, 6, 7, 8, 9] rfl))
        · refine lv_aload_n hx hb dX6_isKept_115 rfl (lv_at hl 2 rfl) ?_
          refine r_get (C := RX6) (T := TX6) (N := 18) hx hb hts i_X6_isKept_X6 hown hK hB.1 rfl 1 (by decide) k_X6_isKept_fieldLink_9 rfl rfl dX6_isKept_116 ?_
          refine lv_iload hx hb dX6_isKept_119 (lv_at hl 1 rfl) ?_
          refine lv_iconst (v := 1) hx hb dX6_isKept_121 (by decide) ?_
          refine lv_iadd hx hb dX6_isKept_122 ?_
          refine r_iald hx hb hK hB.2.1 (vp_ib (lo := 547) (hi := 784) (ib_add (ib_add (ib_nI (n := 546) (by decide)) (ib_mulk (k := 3) (ib_add (ib_mulk (k := 10) iL (by decide) (by decide) (by decide)) (ib_lt (n := 10) (by omega) (by decide)) (by decide) (by decide)) (by decide) (by decide) (by decide)) (by decide) (by decide)) (ib_nI (n := 1) (by decide)) (by decide) (by decide)) (by decide) (by decide)) dX6_isKept_123 ?_
          refine lv_iload_n hx hb dX6_isKept_124 rfl (lv_at hl 5 rfl) ?_
          refine lv_icmp_ne (tgt := 155) hx hb dX6_isKept_125 (by decide) (fun h_5 => ?_) (fun h_5 => ?_)
          · refine lv_iconst (v := 0) hx hb dX6_isKept_155 (by decide) ?_
            have hJ := J_3; (repeat rw [if_neg h_4] at hJ); (repeat rw [if_neg h_5] at hJ)
            first | exact hJ ls (lv_sub hl [0, 1, 2, 3, 4, 5, 6, 7, 8, 9] rfl) | ((repeat rw [if_neg h_4] at hl); (repeat rw [if_neg h_5] at hl); (repeat rw [if_neg h_4]); (repeat rw [if_neg h_5]); exact hJ ls (lv_sub hl [0, 1, 2, 3, 4, 5, 6, 7, 8, 9] rfl))
          · refine lv_iload hx hb dX6_isKept_128 (lv_at hl 0 rfl) ?_
            refine lv_iconst (v := (-1)) hx hb dX6_isKept_130 (by decide) ?_
            refine lv_icmp_eq (tgt := 155) hx hb dX6_isKept_131 (by decide) (fun h_6 => ?_) (fun h_6 => ?_)
            · refine lv_iconst (v := 0) hx hb dX6_isKept_155 (by decide) ?_
              have hJ := J_3; (repeat rw [if_neg h_4] at hJ); (repeat rw [if_pos h_5] at hJ); (repeat rw [if_pos h_6] at hJ)
              first | exact hJ ls (lv_sub hl [0, 1, 2, 3, 4, 5, 6, 7, 8, 9] rfl) | ((repeat rw [if_neg h_4] at hl); (repeat rw [if_pos h_5] at hl); (repeat rw [if_pos h_6] at hl); (repeat rw [if_neg h_4]); (repeat rw [if_pos h_5]); (repeat rw [if_pos h_6]); exact hJ ls (lv_sub hl [0, 1, 2, 3, 4, 5, 6, 7, 8, 9] rfl))
            · refine lv_iload hx hb dX6_isKept_134 (lv_at hl 6 rfl) ?_
              refine lv_iload hx hb dX6_isKept_136 (lv_at hl 0 rfl) ?_
              refine lv_isub hx hb dX6_isKept_138 ?_
              refine lv_aload_n hx hb dX6_isKept_139 rfl (lv_at hl 2 rfl) ?_
              refine r_get (C := RX6) (T := TX6) (N := 18) hx hb hts i_X6_isKept_X6 hown hK hB.1 rfl 1 (by decide) k_X6_isKept_fieldLink_9 rfl rfl dX6_isKept_140 ?_
              refine lv_iload hx hb dX6_isKept_143 (lv_at hl 1 rfl) ?_
              refine lv_iconst (v := 2) hx hb dX6_isKept_145 (by decide) ?_
              refine lv_iadd hx hb dX6_isKept_146 ?_
              refine r_iald hx hb hK hB.2.1 (vp_ib (lo := 548) (hi := 785) (ib_add (ib_add (ib_nI (n := 546) (by decide)) (ib_mulk (k := 3) (ib_add (ib_mulk (k := 10) iL (by decide) (by decide) (by decide)) (ib_lt (n := 10) (by omega) (by decide)) (by decide) (by decide)) (by decide) (by decide) (by decide)) (by decide) (by decide)) (ib_nI (n := 2) (by decide)) (by decide) (by decide)) (by decide) (by decide)) dX6_isKept_147 ?_
              refine lv_icmp_lt (tgt := 155) hx hb dX6_isKept_148 (by decide) (fun h_7 => ?_) (fun h_7 => ?_)
              · refine lv_iconst (v := 0) hx hb dX6_isKept_155 (by decide) ?_
                have hJ := J_3; (repeat rw [if_neg h_4] at hJ); (repeat rw [if_pos h_5] at hJ); (repeat rw [if_neg h_6] at hJ); (repeat rw [if_pos h_7] at hJ)
                first | exact hJ ls (lv_sub hl [0, 1, 2, 3, 4, 5, 6, 7, 8, 9] rfl) | ((repeat rw [if_neg h_4] at hl); (repeat rw [if_pos h_5] at hl); (repeat rw [if_neg h_6] at hl); (repeat rw [if_pos h_7] at hl); (repeat rw [if_neg h_4]); (repeat rw [if_pos h_5]); (repeat rw [if_neg h_6]); (repeat rw [if_pos h_7]); exact hJ ls (lv_sub hl [0, 1, 2, 3, 4, 5, 6, 7, 8, 9] rfl))
              · refine lv_iconst (v := 1) hx hb dX6_isKept_151 (by decide) ?_
                refine lv_goto (tgt := 156) hx hb dX6_isKept_152 (by decide) ?_
                have hJ := J_3; (repeat rw [if_neg h_4] at hJ); (repeat rw [if_pos h_5] at hJ); (repeat rw [if_neg h_6] at hJ); (repeat rw [if_neg h_7] at hJ)
                first | exact hJ ls (lv_sub hl [0, 1, 2, 3, 4, 5, 6, 7, 8, 9] rfl) | ((repeat rw [if_neg h_4] at hl); (repeat rw [if_pos h_5] at hl); (repeat rw [if_neg h_6] at hl); (repeat rw [if_neg h_7] at hl); (repeat rw [if_neg h_4]); (repeat rw [if_pos h_5]); (repeat rw [if_neg h_6]); (repeat rw [if_neg h_7]); exact hJ ls (lv_sub hl [0, 1, 2, 3, 4, 5, 6, 7, 8, 9] rfl))
  · refine lv_icmp_ge (tgt := 48) hx hb dX6_isKept_32 (by decide) (fun h_8 => ?_) (fun h_8 => ?_)
    · refine lv_iconst (v := 1) hx hb dX6_isKept_48 (by decide) ?_
      refine lv_goto (tgt := 53) hx hb dX6_isKept_49 (by decide) ?_
      have hJ := J_1; (repeat rw [if_pos h_8] at hJ)
      first | exact hJ ls (lv_sub hl [0, 1, 2, 3, 4, 5] rfl) | ((repeat rw [if_pos h_8] at hl); (repeat rw [if_pos h_8]); exact hJ ls (lv_sub hl [0, 1, 2, 3, 4, 5] rfl))
    · refine lv_iload hx hb dX6_isKept_35 (lv_at hl 0 rfl) ?_
      refine lv_iconst (v := (-1)) hx hb dX6_isKept_37 (by decide) ?_
      refine lv_icmp_eq (tgt := 52) hx hb dX6_isKept_38 (by decide) (fun h_9 => ?_) (fun h_9 => ?_)
      · refine lv_iconst (v := 0) hx hb dX6_isKept_52 (by decide) ?_
        have hJ := J_1; (repeat rw [if_neg h_8] at hJ); (repeat rw [if_pos h_9] at hJ)
        first | exact hJ ls (lv_sub hl [0, 1, 2, 3, 4, 5] rfl) | ((repeat rw [if_neg h_8] at hl); (repeat rw [if_pos h_9] at hl); (repeat rw [if_neg h_8]); (repeat rw [if_pos h_9]); exact hJ ls (lv_sub hl [0, 1, 2, 3, 4, 5] rfl))
      · refine lv_iload hx hb dX6_isKept_41 (lv_at hl 0 rfl) ?_
        refine lv_iload hx hb dX6_isKept_43 (lv_at hl 5 rfl) ?_
        refine lv_icmp_gt (tgt := 52) hx hb dX6_isKept_45 (by decide) (fun h_10 => ?_) (fun h_10 => ?_)
        · refine lv_iconst (v := 0) hx hb dX6_isKept_52 (by decide) ?_
          have hJ := J_1; (repeat rw [if_neg h_8] at hJ); (repeat rw [if_neg h_9] at hJ); (repeat rw [if_pos h_10] at hJ)
          first | exact hJ ls (lv_sub hl [0, 1, 2, 3, 4, 5] rfl) | ((repeat rw [if_neg h_8] at hl); (repeat rw [if_neg h_9] at hl); (repeat rw [if_pos h_10] at hl); (repeat rw [if_neg h_8]); (repeat rw [if_neg h_9]); (repeat rw [if_pos h_10]); exact hJ ls (lv_sub hl [0, 1, 2, 3, 4, 5] rfl))
        · refine lv_iconst (v := 1) hx hb dX6_isKept_48 (by decide) ?_
          refine lv_goto (tgt := 53) hx hb dX6_isKept_49 (by decide) ?_
          have hJ := J_1; (repeat rw [if_neg h_8] at hJ); (repeat rw [if_neg h_9] at hJ); (repeat rw [if_neg h_10] at hJ)
          first | exact hJ ls (lv_sub hl [0, 1, 2, 3, 4, 5] rfl) | ((repeat rw [if_neg h_8] at hl); (repeat rw [if_neg h_9] at hl); (repeat rw [if_neg h_10] at hl); (repeat rw [if_neg h_8]); (repeat rw [if_neg h_9]); (repeat rw [if_neg h_10]); exact hJ ls (lv_sub hl [0, 1, 2, 3, 4, 5] rfl))

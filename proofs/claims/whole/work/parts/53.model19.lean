theorem an8 {an : Nat} (h : an < 8) : ¬ nI an = 8 := fun e => by
  have h1 : (nI an).toInt = an := Int32.toInt_ofNat_of_lt (by omega)
  rw [e] at h1
  have : (8 : Int32).toInt = 8 := rfl
  omega
def r_lawRow (x : MT) (an : Nat) (kind vv : Int32) : Nat → Int32 := (upd (upd (upd (upd (upd (upd (upd (upd (upd (upd (mS x) (4 : Int32).toNatClampNeg 0) (482 + (nI an)).toNatClampNeg kind) (490 + (nI an)).toNatClampNeg vv) (498 + (nI an)).toNatClampNeg 0) (538 + (nI an)).toNatClampNeg 0) (786 + (nI an)).toNatClampNeg 0) ((506 + (4 * (nI an))) + 0).toNatClampNeg 84) ((506 + (4 * (nI an))) + 1).toNatClampNeg 84) ((506 + (4 * (nI an))) + 2).toNatClampNeg 84) ((506 + (4 * (nI an))) + 3).toNatClampNeg 84)
theorem lawRow_gd (x : MT) {an en : Nat} (han : an < 8) (kind vv : Int32) {sv0 : Nat → Int32} (e : r_lawRow x an kind vv = sv0) : gd an en 0 0 sv0 ∧ ib 0 0 (sv0 (538 + nI an).toNatClampNeg) := by
  have b0 : (482 + nI an).toNatClampNeg = 482 + an := cell_at (b := 482) han (by decide)
  have b1 : (490 + nI an).toNatClampNeg = 490 + an := cell_at (b := 490) han (by decide)
  have b2 : (498 + nI an).toNatClampNeg = 498 + an := cell_at (b := 498) han (by decide)
  have c1 : (786 + nI an).toNatClampNeg = 786 + an := cell_at (b := 786) han (by decide)
  have c2 : (538 + nI an).toNatClampNeg = 538 + an := cell_at (b := 538) han (by decide)
  have f : ∀ k : Nat, k ≤ 3 → ((506 + (4 * (nI an))) + nI k).toNatClampNeg = 506 + 4 * an + k := fun k hk => by
    rw [show (506 : Int32) = nI 506 from rfl, show (4 : Int32) = nI 4 from rfl, pk_mul, nI_add, nI_add, nI_clamp (by omega)]
  have f0 : ((506 + (4 * (nI an))) + 0).toNatClampNeg = 506 + 4 * an + 0 := f 0 (by decide)
  have f1 : ((506 + (4 * (nI an))) + 1).toNatClampNeg = 506 + 4 * an + 1 := f 1 (by decide)
  have f2 : ((506 + (4 * (nI an))) + 2).toNatClampNeg = 506 + 4 * an + 2 := f 2 (by decide)
  have f3 : ((506 + (4 * (nI an))) + 3).toNatClampNeg = 506 + 4 * an + 3 := f 3 (by decide)
  have z1 : sv0 (786 + nI an).toNatClampNeg = 0 := by
    rw [← e]; unfold r_lawRow
    rw [f0, f1, f2, f3, c1, upd_ne (by omega), upd_ne (by omega), upd_ne (by omega), upd_ne (by omega), upd_at]
  have z2 : sv0 (538 + nI an).toNatClampNeg = 0 := by
    rw [← e]; unfold r_lawRow
    rw [f0, f1, f2, f3, c1, c2, upd_ne (by omega), upd_ne (by omega), upd_ne (by omega), upd_ne (by omega), upd_ne (by omega), upd_at]
  refine ⟨⟨Nat.zero_le _, ?_, ?_⟩, ?_⟩
  · rw [z1]; exact ⟨by decide, by decide⟩
  · rw [z2]; exact ⟨by decide, by decide⟩
  · rw [z2]; exact ⟨by decide, by decide⟩
theorem i_X6_law_X6 : ∀ w ∈ wsX60, w ∈ wsX6_law := fun _ h => List.mem_cons_of_mem _ (List.mem_append_right _ h)
theorem k_X6_law_fieldLink_9 : Cond.fieldLink RX6 9 "SameWaterModel" "s" "[I" ∈ wsX6_law := by decide +kernel
theorem k_X6_law_fieldLink_78 : Cond.fieldLink RX6 78 "SameWaterModel" "act" "I" ∈ wsX6_law := by decide +kernel
theorem k_X6_law_fieldLink_54 : Cond.fieldLink RX6 54 "SameWaterModel" "end" "I" ∈ wsX6_law := by decide +kernel
theorem k_X6_law_fieldLink_51 : Cond.fieldLink RX6 51 "SameWaterModel" "spot" "I" ∈ wsX6_law := by decide +kernel
theorem k_X6_law_fieldLink_57 : Cond.fieldLink RX6 57 "SameWaterModel" "isWrong" "Z" ∈ wsX6_law := by decide +kernel
theorem k_X6_law_fieldLink_81 : Cond.fieldLink RX6 81 "SameWaterModel" "open" "I" ∈ wsX6_law := by decide +kernel
theorem kd_X6_clauseHere : yX6_clauseHere.cls = RX6 ∧ yX6_clauseHere.cls ≠ "java/lang/invoke/MethodHandle" ∧ yX6_clauseHere.cls ≠ "java/lang/invoke/VarHandle" ∧ (parseMethodDescriptor yX6_clauseHere.desc).map (fun d => d.parameters.length) = some 0 := by decide +kernel
def r_lawGo (an en : Nat) (P : PF6) : Nat → Nat → Bool → (Nat → Int32) → Int32 × Nat × Bool × (Nat → Int32)
  | 0, sp_k, wr_k, sv_k => if wr_k = true then ((-10) - (nI sp_k), sp_k, wr_k, sv_k) else if (nI sp_k) = (nI en) then (nI an, sp_k, wr_k, upd sv_k (3 : Int32).toNatClampNeg ((sv_k (3 : Int32).toNatClampNeg) + 1)) else ((-10) - (nI sp_k), sp_k, wr_k, sv_k)
  | f + 1, sp_k, wr_k, sv_k => if wr_k = true then if wr_k = true then ((-10) - (nI sp_k), sp_k, wr_k, sv_k) else if (nI sp_k) = (nI en) then (nI an, sp_k, wr_k, upd sv_k (3 : Int32).toNatClampNeg ((sv_k (3 : Int32).toNatClampNeg) + 1)) else ((-10) - (nI sp_k), sp_k, wr_k, sv_k) else if (r_here en sp_k sv_k) = 59 then (match r_clause an en P (sp_k + 1) wr_k sv_k with | (sp_1, wr_1, sv_1) => r_lawGo an en P f sp_1 wr_1 sv_1) else if wr_k = true then ((-10) - (nI sp_k), sp_k, wr_k, sv_k) else if (nI sp_k) = (nI en) then (nI an, sp_k, wr_k, upd sv_k (3 : Int32).toNatClampNeg ((sv_k (3 : Int32).toNatClampNeg) + 1)) else ((-10) - (nI sp_k), sp_k, wr_k, sv_k)
theorem r_lawGo_0 (an en : Nat) (P : PF6) (sp_k : Nat) (wr_k : Bool) (sv_k : Nat → Int32) : r_lawGo an en P 0 sp_k wr_k sv_k = (if wr_k = true then ((-10) - (nI sp_k), sp_k, wr_k, sv_k) else if (nI sp_k) = (nI en) then (nI an, sp_k, wr_k, upd sv_k (3 : Int32).toNatClampNeg ((sv_k (3 : Int32).toNatClampNeg) + 1)) else ((-10) - (nI sp_k), sp_k, wr_k, sv_k)) := rfl
theorem r_lawGo_s (an en : Nat) (P : PF6) (f : Nat) (sp_k : Nat) (wr_k : Bool) (sv_k : Nat → Int32) : r_lawGo an en P (f + 1) sp_k wr_k sv_k = (if wr_k = true then if wr_k = true then ((-10) - (nI sp_k), sp_k, wr_k, sv_k) else if (nI sp_k) = (nI en) then (nI an, sp_k, wr_k, upd sv_k (3 : Int32).toNatClampNeg ((sv_k (3 : Int32).toNatClampNeg) + 1)) else ((-10) - (nI sp_k), sp_k, wr_k, sv_k) else if (r_here en sp_k sv_k) = 59 then (match r_clause an en P (sp_k + 1) wr_k sv_k with | (sp_1, wr_1, sv_1) => r_lawGo an en P f sp_1 wr_1 sv_1) else if wr_k = true then ((-10) - (nI sp_k), sp_k, wr_k, sv_k) else if (nI sp_k) = (nI en) then (nI an, sp_k, wr_k, upd sv_k (3 : Int32).toNatClampNeg ((sv_k (3 : Int32).toNatClampNeg) + 1)) else ((-10) - (nI sp_k), sp_k, wr_k, sv_k)) := rfl
def r_lawMain (x : MT) (an en : Nat) (kind vv : Int32) (P : PF6) : Int32 × Nat × Bool × (Nat → Int32) := ((fun (sv0 : Nat → Int32) => (match r_clause an en P 0 false sv0 with | (sp_0, wr_0, sv_0) => r_lawGo an en P 9 sp_0 wr_0 sv_0)) (upd (upd (upd (upd (upd (upd (upd (upd (upd (upd (mS x) (4 : Int32).toNatClampNeg 0) (482 + (nI an)).toNatClampNeg kind) (490 + (nI an)).toNatClampNeg vv) (498 + (nI an)).toNatClampNeg 0) (538 + (nI an)).toNatClampNeg 0) (786 + (nI an)).toNatClampNeg 0) ((506 + (4 * (nI an))) + 0).toNatClampNeg 84) ((506 + (4 * (nI an))) + 1).toNatClampNeg 84) ((506 + (4 * (nI an))) + 2).toNatClampNeg 84) ((506 + (4 * (nI an))) + 3).toNatClampNeg 84))
set_option maxHeartbeats 600000 in
set_option maxRecDepth 100000 in
theorem c_X6_law_m (l : Launch) (G : GG) (Z : AM) (M : Nat → Nat) (x : MT) (an en : Nat) (kind vv : Int32) (P : PF6)  (hN : mN M) (hAZ : ∀ q : Nat, m01 M q → Z.1 q) (hen : en ≤ 120) (han : an < 8) (hA : (mS x) (3 : Int32).toNatClampNeg = nI an) (hE4 : (mS x) (4 : Int32).toNatClampNeg = nI en) (hK9 : r_in kind 0 6 = true) (hV9 : r_in vv 0 9 = true) (hP : cRm l G Z M x an en yX6_some wsX6_some { frames := 27, cells := 0, slots := 0, locals := 980 } 0 P) (hPo : pOK an en P) (hPf : pFr an en P) (hPw : pWr P) : Met l yX6_law wsX6_law { frames := 30, cells := 0, slots := 0, locals := 1041 } (aP G Z [.ref (M 0), .int kind, .int vv] (fun H => MAt G M x H)) (wrQ (some (.int ((r_lawMain x an en kind vv P).1))) (fun H => PAt G M x (nI an) (nI en) (nI ((r_lawMain x an en kind vv P).2.1)) ((r_lawMain x an en kind vv P).2.2.1) 0 ((r_lawMain x an en kind vv P).2.2.2) H) (m01 M)) 0 0 (m01 M) := by
  refine Met.ofW (cc := cX6_law) (maxL := 4) (ret := (some .int)) (by decide) rfl ?_
  intro p e s m args below meth c s₁ Bd hml hv
  obtain ⟨rfl, hK, hZ, hB⟩ := hv
  have hx := Bd.exec
  have hb := Bd.bytes
  have hr := Bd.returns
  have hts := atoms_spec (ws := wsX6_law) Bd.pre
  have hown : s.vm.findClass RX6 = some m.cls := findClass_of_methodNamed Bd.named
  have hlocks := Bd.notSynchronized
  have hC : CallFix p m c cX6_law 4 s _ wsX6_law RX6 := ⟨hx, hb, hml, hown, hts⟩
  have hl := lv_entry ([.ref (M 0), .int kind, .int vv]) (n := 4) (Nat.le_of_ble_eq_true rfl)
  rw [lg_entry_eq]
  generalize (lg_sl ([.ref (M 0), .int kind, .int vv]) ++ List.replicate (4 - (lg_sl ([.ref (M 0), .int kind, .int vv])).length) Slot.unset).toArray = ls at hl ⊢
  have hl : lv_has ls 4 [(0, .ref (M 0)), (1, .int kind), (2, .int vv)] := hl
  have hS : wS (m01 M) s.heap s.heap [] := wS.rf
  have f_s : PAt G M x (mAc x) (mEn x) (mSp x) (mWr x) (mOp x) (mS x) s.heap := hB
  refine lv_iload_n hx hb dX6_law_0 rfl (lv_at hl 1 rfl) ?_
  refine lv_iconst (v := 0) hx hb dX6_law_1 (by decide) ?_
  refine lv_bipush (v := 6) hx hb dX6_law_2 (by decide +kernel) ?_
  refine ro_call (va_runS (As := [.int kind, .int 0, .int 6]) (rest := []) hC (c_X6_in l G kind 0 6) (va_cwS 3 hts gX6_law_X6_in rfl rfl rfl kd_X6_in ⟨Nat.le_of_ble_eq_true rfl, Nat.le_of_ble_eq_true rfl⟩) (ro_preS hK trivial) rfl rfl hl.1 rfl (lv_room (Nat.le_of_ble_eq_true rfl)) dX6_law_4 ⟨Nat.zero_le _, Nat.zero_le _⟩) ?_
  refine bz_ne (tgt := 12) hx hb dX6_law_7 (by decide) (fun h_1 => ?_) (fun h_1 => ?_)
  · refine lv_iload_n hx hb dX6_law_12 rfl (lv_at hl 2 rfl) ?_
    refine lv_iconst (v := 0) hx hb dX6_law_13 (by decide) ?_
    refine lv_bipush (v := 9) hx hb dX6_law_14 (by decide +kernel) ?_
    refine ro_call (va_runS (As := [.int vv, .int 0, .int 9]) (rest := []) hC (c_X6_in l G vv 0 9) (va_cwS 3 hts gX6_law_X6_in rfl rfl rfl kd_X6_in ⟨Nat.le_of_ble_eq_true rfl, Nat.le_of_ble_eq_true rfl⟩) (ro_preS hK trivial) rfl rfl hl.1 rfl (lv_room (Nat.le_of_ble_eq_true rfl)) dX6_law_16 ⟨Nat.zero_le _, Nat.zero_le _⟩) ?_
    refine bz_ne (tgt := 25) hx hb dX6_law_19 (by decide) (fun h_2 => ?_) (fun h_2 => ?_)
    · refine lv_aload_n hx hb dX6_law_25 rfl (lv_at hl 0 rfl) ?_
      refine r_get (C := RX6) (T := TX6) (N := 18) hx hb hts i_X6_law_X6 hown hK f_s.1 rfl 1 (by decide) k_X6_law_fieldLink_9 rfl rfl dX6_law_26 ?_
      refine lv_iconst (v := 3) hx hb dX6_law_29 (by decide) ?_
      refine r_iald hx hb hK f_s.2.1 (vp_ib (lo := 3) (hi := 3) (ib_nI (n := 3) (by decide)) (by decide) (by decide)) dX6_law_30 ?_
      refine lv_topi (fun z9 ez9 => ?_)
      have ez8 : z9 = nI an := ez9.trans hA
      clear ez9
      subst ez8
      refine lv_bipush (v := 8) hx hb dX6_law_31 (by decide +kernel) ?_
      refine lv_icmp_ne (tgt := 39) hx hb dX6_law_33 (by decide) (fun h_3 => ?_) (fun h_3 => ?_)
      · refine lv_aload_n hx hb dX6_law_39 rfl (lv_at hl 0 rfl) ?_
        refine lv_aload_n hx hb dX6_law_40 rfl (lv_at hl 0 rfl) ?_
        refine r_get (C := RX6) (T := TX6) (N := 18) hx hb hts i_X6_law_X6 hown hK f_s.1 rfl 1 (by decide) k_X6_law_fieldLink_9 rfl rfl dX6_law_41 ?_
        refine lv_iconst (v := 3) hx hb dX6_law_44 (by decide) ?_
        refine r_iald hx hb hK f_s.2.1 (vp_ib (lo := 3) (hi := 3) (ib_nI (n := 3) (by decide)) (by decide) (by decide)) dX6_law_45 ?_
        refine lv_topi (fun z9 ez9 => ?_)
        have ez8 : z9 = nI an := ez9.trans hA
        clear ez9
        subst ez8
        refine w_put (C := RX6) (T := TX6) (N := 18) hx hb hts i_X6_law_X6 tyX6 tyX6_ok nmX6 hown hK f_s.1 hS (.inl rfl) rfl 4 (by decide) k_X6_law_fieldLink_78 rfl rfl rfl rfl (Nat.le_of_ble_eq_true rfl) dX6_law_46 (fun H locs hn hq hS => ?_)
        have hZ := hZ.put (hAZ _ (.inl rfl)) hq
        have f_s : PAt G M x (nI an) (mEn x) (mSp x) (mWr x) (mOp x) (mS x) H := f_s.rest hN hn hq
        refine lv_aload_n hx hb dX6_law_49 rfl (lv_at hl 0 rfl) ?_
        refine lv_aload_n hx hb dX6_law_50 rfl (lv_at hl 0 rfl) ?_
        refine r_get (C := RX6) (T := TX6) (N := 18) hx hb hts i_X6_law_X6 hown hK f_s.1 rfl 1 (by decide) k_X6_law_fieldLink_9 rfl rfl dX6_law_51 ?_
        refine lv_iconst (v := 4) hx hb dX6_law_54 (by decide) ?_
        refine r_iald hx hb hK f_s.2.1 (vp_ib (lo := 4) (hi := 4) (ib_nI (n := 4) (by decide)) (by decide) (by decide)) dX6_law_55 ?_
        refine lv_topi (fun z9 ez9 => ?_)
        have ez8 : z9 = nI en := ez9.trans hE4
        clear ez9
        subst ez8
        refine w_put (C := RX6) (T := TX6) (N := 18) hx hb hts i_X6_law_X6 tyX6 tyX6_ok nmX6 hown hK f_s.1 hS (.inl rfl) rfl 6 (by decide) k_X6_law_fieldLink_54 rfl rfl rfl rfl (Nat.le_of_ble_eq_true rfl) dX6_law_56 (fun H locs hn hq hS => ?_)
        have hZ := hZ.put (hAZ _ (.inl rfl)) hq
        have f_s : PAt G M x (nI an) (nI en) (mSp x) (mWr x) (mOp x) (mS x) H := f_s.rest hN hn hq
        refine lv_aload_n hx hb dX6_law_59 rfl (lv_at hl 0 rfl) ?_
        refine r_get (C := RX6) (T := TX6) (N := 18) hx hb hts i_X6_law_X6 hown hK f_s.1 rfl 1 (by decide) k_X6_law_fieldLink_9 rfl rfl dX6_law_60 ?_
        refine lv_iconst (v := 4) hx hb dX6_law_63 (by decide) ?_
        refine lv_iconst (v := 0) hx hb dX6_law_64 (by decide) ?_
        refine w_iast hx hb hK f_s.2.1 hS (.inr rfl) (vp_ib (lo := 4) (hi := 4) (ib_nI (n := 4) (by decide)) (by decide) (by decide)) dX6_law_65 (fun H locs hn hq hS => ?_)
        have hZ := hZ.put (hAZ _ (.inr rfl)) hq
        have f_s : PAt G M x (nI an) (nI en) (mSp x) (mWr x) (mOp x) (upd (mS x) (4 : Int32).toNatClampNeg 0) H := f_s.row hN hn hq
        refine lv_aload_n hx hb dX6_law_66 rfl (lv_at hl 0 rfl) ?_
        refine r_get (C := RX6) (T := TX6) (N := 18) hx hb hts i_X6_law_X6 hown hK f_s.1 rfl 1 (by decide) k_X6_law_fieldLink_9 rfl rfl dX6_law_67 ?_
        refine lv_sipush (v := 482) hx hb dX6_law_70 (by decide +kernel) ?_
        refine lv_aload_n hx hb dX6_law_73 rfl (lv_at hl 0 rfl) ?_
        refine r_get (C := RX6) (T := TX6) (N := 18) hx hb hts i_X6_law_X6 hown hK f_s.1 rfl 4 (by decide) k_X6_law_fieldLink_78 rfl rfl dX6_law_74 ?_
        refine lv_iadd hx hb dX6_law_77 ?_
        refine lv_iload_n hx hb dX6_law_78 rfl (lv_at hl 1 rfl) ?_
        refine w_iast hx hb hK f_s.2.1 hS (.inr rfl) (vp_ib (lo := 482) (hi := 489) (ib_add (ib_nI (n := 482) (by decide)) (ib_lt (n := 8) (by omega) (by decide)) (by decide) (by decide)) (by decide) (by decide)) dX6_law_79 (fun H locs hn hq hS => ?_)
        have hZ := hZ.put (hAZ _ (.inr rfl)) hq
        have f_s : PAt G M x (nI an) (nI en) (mSp x) (mWr x) (mOp x) (upd (upd (mS x) (4 : Int32).toNatClampNeg 0) (482 + (nI an)).toNatClampNeg kind) H := f_s.row hN hn hq
        refine lv_aload_n hx hb dX6_law_80 rfl (lv_at hl 0 rfl) ?_
        refine r_get (C := RX6) (T := TX6) (N := 18) hx hb hts i_X6_law_X6 hown hK f_s.1 rfl 1 (by decide) k_X6_law_fieldLink_9 rfl rfl dX6_law_81 ?_
        refine lv_sipush (v := 490) hx hb dX6_law_84 (by decide +kernel) ?_
        refine lv_aload_n hx hb dX6_law_87 rfl (lv_at hl 0 rfl) ?_
        refine r_get (C := RX6) (T := TX6) (N := 18) hx hb hts i_X6_law_X6 hown hK f_s.1 rfl 4 (by decide) k_X6_law_fieldLink_78 rfl rfl dX6_law_88 ?_
        refine lv_iadd hx hb dX6_law_91 ?_
        refine lv_iload_n hx hb dX6_law_92 rfl (lv_at hl 2 rfl) ?_
        refine w_iast hx hb hK f_s.2.1 hS (.inr rfl) (vp_ib (lo := 490) (hi := 497) (ib_add (ib_nI (n := 490) (by decide)) (ib_lt (n := 8) (by omega) (by decide)) (by decide) (by decide)) (by decide) (by decide)) dX6_law_93 (fun H locs hn hq hS => ?_)
        have hZ := hZ.put (hAZ _ (.inr rfl)) hq
        have f_s : PAt G M x (nI an) (nI en) (mSp x) (mWr x) (mOp x) (upd (upd (upd (mS x) (4 : Int32).toNatClampNeg 0) (482 + (nI an)).toNatClampNeg kind) (490 + (nI an)).toNatClampNeg vv) H := f_s.row hN hn hq
        refine lv_aload_n hx hb dX6_law_94 rfl (lv_at hl 0 rfl) ?_
        refine r_get (C := RX6) (T := TX6) (N := 18) hx hb hts i_X6_law_X6 hown hK f_s.1 rfl 1 (by decide) k_X6_law_fieldLink_9 rfl rfl dX6_law_95 ?_
        refine lv_sipush (v := 498) hx hb dX6_law_98 (by decide +kernel) ?_
        refine lv_aload_n hx hb dX6_law_101 rfl (lv_at hl 0 rfl) ?_
        refine r_get (C := RX6) (T := TX6) (N := 18) hx hb hts i_X6_law_X6 hown hK f_s.1 rfl 4 (by decide) k_X6_law_fieldLink_78 rfl rfl dX6_law_102 ?_
        refine lv_iadd hx hb dX6_law_105 ?_
        refine lv_iconst (v := 0) hx hb dX6_law_106 (by decide) ?_
        refine w_iast hx hb hK f_s.2.1 hS (.inr rfl) (vp_ib (lo := 498) (hi := 505) (ib_add (ib_nI (n := 498) (by decide)) (ib_lt (n := 8) (by omega) (by decide)) (by decide) (by decide)) (by decide) (by decide)) dX6_law_107 (fun H locs hn hq hS => ?_)
        have hZ := hZ.put (hAZ _ (.inr rfl)) hq
        have f_s : PAt G M x (nI an) (nI en) (mSp x) (mWr x) (mOp x) (upd (upd (upd (upd (mS x) (4 : Int32).toNatClampNeg 0) (482 + (nI an)).toNatClampNeg kind) (490 + (nI an)).toNatClampNeg vv) (498 + (nI an)).toNatClampNeg 0) H := f_s.row hN hn hq
        refine lv_aload_n hx hb dX6_law_108 rfl (lv_at hl 0 rfl) ?_
        refine r_get (C := RX6) (T := TX6) (N := 18) hx hb hts i_X6_law_X6 hown hK f_s.1 rfl 1 (by decide) k_X6_law_fieldLink_9 rfl rfl dX6_law_109 ?_
        refine lv_sipush (v := 538) hx hb dX6_law_112 (by decide +kernel) ?_
        refine lv_aload_n hx hb dX6_law_115 rfl (lv_at hl 0 rfl) ?_
        refine r_get (C := RX6) (T := TX6) (N := 18) hx hb hts i_X6_law_X6 hown hK f_s.1 rfl 4 (by decide) k_X6_law_fieldLink_78 rfl rfl dX6_law_116 ?_
        refine lv_iadd hx hb dX6_law_119 ?_
        refine lv_iconst (v := 0) hx hb dX6_law_120 (by decide) ?_
        refine w_iast hx hb hK f_s.2.1 hS (.inr rfl) (vp_ib (lo := 538) (hi := 545) (ib_add (ib_nI (n := 538) (by decide)) (ib_lt (n := 8) (by omega) (by decide)) (by decide) (by decide)) (by decide) (by decide)) dX6_law_121 (fun H locs hn hq hS => ?_)
        have hZ := hZ.put (hAZ _ (.inr rfl)) hq
        have f_s : PAt G M x (nI an) (nI en) (mSp x) (mWr x) (mOp x) (upd (upd (upd (upd (upd (mS x) (4 : Int32).toNatClampNeg 0) (482 + (nI an)).toNatClampNeg kind) (490 + (nI an)).toNatClampNeg vv) (498 + (nI an)).toNatClampNeg 0) (538 + (nI an)).toNatClampNeg 0) H := f_s.row hN hn hq
        refine lv_aload_n hx hb dX6_law_122 rfl (lv_at hl 0 rfl) ?_
        refine r_get (C := RX6) (T := TX6) (N := 18) hx hb hts i_X6_law_X6 hown hK f_s.1 rfl 1 (by decide) k_X6_law_fieldLink_9 rfl rfl dX6_law_123 ?_
        refine lv_sipush (v := 786) hx hb dX6_law_126 (by decide +kernel) ?_
        refine lv_aload_n hx hb dX6_law_129 rfl (lv_at hl 0 rfl) ?_
        refine r_get (C := RX6) (T := TX6) (N := 18) hx hb hts i_X6_law_X6 hown hK f_s.1 rfl 4 (by decide) k_X6_law_fieldLink_78 rfl rfl dX6_law_130 ?_
        refine lv_iadd hx hb dX6_law_133 ?_
        refine lv_iconst (v := 0) hx hb dX6_law_134 (by decide) ?_
        refine w_iast hx hb hK f_s.2.1 hS (.inr rfl) (vp_ib (lo := 786) (hi := 793) (ib_add (ib_nI (n := 786) (by decide)) (ib_lt (n := 8) (by omega) (by decide)) (by decide) (by decide)) (by decide) (by decide)) dX6_law_135 (fun H locs hn hq hS => ?_)
        have hZ := hZ.put (hAZ _ (.inr rfl)) hq
        have f_s : PAt G M x (nI an) (nI en) (mSp x) (mWr x) (mOp x) (upd (upd (upd (upd (upd (upd (mS x) (4 : Int32).toNatClampNeg 0) (482 + (nI an)).toNatClampNeg kind) (490 + (nI an)).toNatClampNeg vv) (498 + (nI an)).toNatClampNeg 0) (538 + (nI an)).toNatClampNeg 0) (786 + (nI an)).toNatClampNeg 0) H := f_s.row hN hn hq
        refine lv_iconst (v := 0) hx hb dX6_law_136 (by decide) ?_
        refine lv_istore_n (lv' := [(3, .int 0), (0, .ref (M 0)), (1, .int kind), (2, .int vv)]) hx hb dX6_law_137 rfl hl (by decide) rfl (fun ls hl => ?_)
        refine lv_iload_n hx hb dX6_law_138 rfl (lv_at hl 0 rfl) ?_
        refine lv_iconst (v := 4) hx hb dX6_law_139 (by decide) ?_
        refine lv_icmp_ge (tgt := 168) hx hb dX6_law_140 (by decide) (fun h_4 => ?_) (fun h_4 => ?_)
        · exact absurd h_4 (by decide)
        · refine lv_aload_n hx hb dX6_law_143 rfl (lv_at hl 1 rfl) ?_
          refine r_get (C := RX6) (T := TX6) (N := 18) hx hb hts i_X6_law_X6 hown hK f_s.1 rfl 1 (by decide) k_X6_law_fieldLink_9 rfl rfl dX6_law_144 ?_
          refine lv_sipush (v := 506) hx hb dX6_law_147 (by decide +kernel) ?_
          refine lv_iconst (v := 4) hx hb dX6_law_150 (by decide) ?_
          refine lv_aload_n hx hb dX6_law_151 rfl (lv_at hl 1 rfl) ?_
          refine r_get (C := RX6) (T := TX6) (N := 18) hx hb hts i_X6_law_X6 hown hK f_s.1 rfl 4 (by decide) k_X6_law_fieldLink_78 rfl rfl dX6_law_152 ?_
          refine lv_imul hx hb dX6_law_155 ?_
          refine lv_iadd hx hb dX6_law_156 ?_
          refine lv_iload_n hx hb dX6_law_157 rfl (lv_at hl 0 rfl) ?_
          refine lv_iadd hx hb dX6_law_158 ?_
          refine lv_bipush (v := 84) hx hb dX6_law_159 (by decide +kernel) ?_
          refine w_iast hx hb hK f_s.2.1 hS (.inr rfl) (vp_ib (lo := 506) (hi := 534) (ib_add (ib_add (ib_nI (n := 506) (by decide)) (ib_mulk (k := 4) (ib_lt (n := 8) (by omega) (by decide)) (by decide) (by decide) (by decide)) (by decide) (by decide)) (ib_nI (n := 0) (by decide)) (by decide) (by decide)) (by decide) (by decide)) dX6_law_161 (fun H locs hn hq hS => ?_)
          have hZ := hZ.put (hAZ _ (.inr rfl)) hq
          have f_s : PAt G M x (nI an) (nI en) (mSp x) (mWr x) (mOp x) (upd (upd (upd (upd (upd (upd (upd (mS x) (4 : Int32).toNatClampNeg 0) (482 + (nI an)).toNatClampNeg kind) (490 + (nI an)).toNatClampNeg vv) (498 + (nI an)).toNatClampNeg 0) (538 + (nI an)).toNatClampNeg 0) (786 + (nI an)).toNatClampNeg 0) ((506 + (4 * (nI an))) + 0).toNatClampNeg 84) H := f_s.row hN hn hq
          refine lv_iinc (v := 1) (lv' := [(3, .int 1), (0, .ref (M 0)), (1, .int kind), (2, .int vv)]) hx hb dX6_law_162 hl (k := 0) rfl (by decide) (by decide) rfl (fun ls hl => ?_)
          refine lv_goto (tgt := 138) hx hb dX6_law_165 (by decide) ?_
          refine lv_iload_n hx hb dX6_law_138 rfl (lv_at hl 0 rfl) ?_
          refine lv_iconst (v := 4) hx hb dX6_law_139 (by decide) ?_
          refine lv_icmp_ge (tgt := 168) hx hb dX6_law_140 (by decide) (fun h_5 => ?_) (fun h_5 => ?_)
          · exact absurd h_5 (by decide)
          · refine lv_aload_n hx hb dX6_law_143 rfl (lv_at hl 1 rfl) ?_
            refine r_get (C := RX6) (T := TX6) (N := 18) hx hb hts i_X6_law_X6 hown hK f_s.1 rfl 1 (by decide) k_X6_law_fieldLink_9 rfl rfl dX6_law_144 ?_
            refine lv_sipush (v := 506) hx hb dX6_law_147 (by decide +kernel) ?_
            refine lv_iconst (v := 4) hx hb dX6_law_150 (by decide) ?_
            refine lv_aload_n hx hb dX6_law_151 rfl (lv_at hl 1 rfl) ?_
            refine r_get (C := RX6) (T := TX6) (N := 18) hx hb hts i_X6_law_X6 hown hK f_s.1 rfl 4 (by decide) k_X6_law_fieldLink_78 rfl rfl dX6_law_152 ?_
            refine lv_imul hx hb dX6_law_155 ?_
            refine lv_iadd hx hb dX6_law_156 ?_
            refine lv_iload_n hx hb dX6_law_157 rfl (lv_at hl 0 rfl) ?_
            refine lv_iadd hx hb dX6_law_158 ?_
            refine lv_bipush (v := 84) hx hb dX6_law_159 (by decide +kernel) ?_
            refine w_iast hx hb hK f_s.2.1 hS (.inr rfl) (vp_ib (lo := 507) (hi := 535) (ib_add (ib_add (ib_nI (n := 506) (by decide)) (ib_mulk (k := 4) (ib_lt (n := 8) (by omega) (by decide)) (by decide) (by decide) (by decide)) (by decide) (by decide)) (ib_nI (n := 1) (by decide)) (by decide) (by decide)) (by decide) (by decide)) dX6_law_161 (fun H locs hn hq hS => ?_)
            have hZ := hZ.put (hAZ _ (.inr rfl)) hq
            have f_s : PAt G M x (nI an) (nI en) (mSp x) (mWr x) (mOp x) (upd (upd (upd (upd (upd (upd (upd (upd (mS x) (4 : Int32).toNatClampNeg 0) (482 + (nI an)).toNatClampNeg kind) (490 + (nI an)).toNatClampNeg vv) (498 + (nI an)).toNatClampNeg 0) (538 + (nI an)).toNatClampNeg 0) (786 + (nI an)).toNatClampNeg 0) ((506 + (4 * (nI an))) + 0).toNatClampNeg 84) ((506 + (4 * (nI an))) + 1).toNatClampNeg 84) H := f_s.row hN hn hq
            refine lv_iinc (v := 2) (lv' := [(3, .int 2), (0, .ref (M 0)), (1, .int kind), (2, .int vv)]) hx hb dX6_law_162 hl (k := 0) rfl (by decide) (by decide) rfl (fun ls hl => ?_)
            refine lv_goto (tgt := 138) hx hb dX6_law_165 (by decide) ?_
            refine lv_iload_n hx hb dX6_law_138 rfl (lv_at hl 0 rfl) ?_
            refine lv_iconst (v := 4) hx hb dX6_law_139 (by decide) ?_
            refine lv_icmp_ge (tgt := 168) hx hb dX6_law_140 (by decide) (fun h_6 => ?_) (fun h_6 => ?_)
            · exact absurd h_6 (by decide)
            · refine lv_aload_n hx hb dX6_law_143 rfl (lv_at hl 1 rfl) ?_
              refine r_get (C := RX6) (T := TX6) (N := 18) hx hb hts i_X6_law_X6 hown hK f_s.1 rfl 1 (by decide) k_X6_law_fieldLink_9 rfl rfl dX6_law_144 ?_
              refine lv_sipush (v := 506) hx hb dX6_law_147 (by decide +kernel) ?_
              refine lv_iconst (v := 4) hx hb dX6_law_150 (by decide) ?_
              refine lv_aload_n hx hb dX6_law_151 rfl (lv_at hl 1 rfl) ?_
              refine r_get (C := RX6) (T := TX6) (N := 18) hx hb hts i_X6_law_X6 hown hK f_s.1 rfl 4 (by decide) k_X6_law_fieldLink_78 rfl rfl dX6_law_152 ?_
              refine lv_imul hx hb dX6_law_155 ?_
              refine lv_iadd hx hb dX6_law_156 ?_
              refine lv_iload_n hx hb dX6_law_157 rfl (lv_at hl 0 rfl) ?_
              refine lv_iadd hx hb dX6_law_158 ?_
              refine lv_bipush (v := 84) hx hb dX6_law_159 (by decide +kernel) ?_
              refine w_iast hx hb hK f_s.2.1 hS (.inr rfl) (vp_ib (lo := 508) (hi := 536) (ib_add (ib_add (ib_nI (n := 506) (by decide)) (ib_mulk (k := 4) (ib_lt (n := 8) (by omega) (by decide)) (by decide) (by decide) (by decide)) (by decide) (by decide)) (ib_nI (n := 2) (by decide)) (by decide) (by decide)) (by decide) (by decide)) dX6_law_161 (fun H locs hn hq hS => ?_)
              have hZ := hZ.put (hAZ _ (.inr rfl)) hq
              have f_s : PAt G M x (nI an) (nI en) (mSp x) (mWr x) (mOp x) (upd (upd (upd (upd (upd (upd (upd (upd (upd (mS x) (4 : Int32).toNatClampNeg 0) (482 + (nI an)).toNatClampNeg kind) (490 + (nI an)).toNatClampNeg vv) (498 + (nI an)).toNatClampNeg 0) (538 + (nI an)).toNatClampNeg 0) (786 + (nI an)).toNatClampNeg 0) ((506 + (4 * (nI an))) + 0).toNatClampNeg 84) ((506 + (4 * (nI an))) + 1).toNatClampNeg 84) ((506 + (4 * (nI an))) + 2).toNatClampNeg 84) H := f_s.row hN hn hq
              refine lv_iinc (v := 3) (lv' := [(3, .int 3), (0, .ref (M 0)), (1, .int kind), (2, .int vv)]) hx hb dX6_law_162 hl (k := 0) rfl (by decide) (by decide) rfl (fun ls hl => ?_)
              refine lv_goto (tgt := 138) hx hb dX6_law_165 (by decide) ?_
              refine lv_iload_n hx hb dX6_law_138 rfl (lv_at hl 0 rfl) ?_
              refine lv_iconst (v := 4) hx hb dX6_law_139 (by decide) ?_
              refine lv_icmp_ge (tgt := 168) hx hb dX6_law_140 (by decide) (fun h_7 => ?_) (fun h_7 => ?_)
              · exact absurd h_7 (by decide)
              · refine lv_aload_n hx hb dX6_law_143 rfl (lv_at hl 1 rfl) ?_
                refine r_get (C := RX6) (T := TX6) (N := 18) hx hb hts i_X6_law_X6 hown hK f_s.1 rfl 1 (by decide) k_X6_law_fieldLink_9 rfl rfl dX6_law_144 ?_
                refine lv_sipush (v := 506) hx hb dX6_law_147 (by decide +kernel) ?_
                refine lv_iconst (v := 4) hx hb dX6_law_150 (by decide) ?_
                refine lv_aload_n hx hb dX6_law_151 rfl (lv_at hl 1 rfl) ?_
                refine r_get (C := RX6) (T := TX6) (N := 18) hx hb hts i_X6_law_X6 hown hK f_s.1 rfl 4 (by decide) k_X6_law_fieldLink_78 rfl rfl dX6_law_152 ?_
                refine lv_imul hx hb dX6_law_155 ?_
                refine lv_iadd hx hb dX6_law_156 ?_
                refine lv_iload_n hx hb dX6_law_157 rfl (lv_at hl 0 rfl) ?_
                refine lv_iadd hx hb dX6_law_158 ?_
                refine lv_bipush (v := 84) hx hb dX6_law_159 (by decide +kernel) ?_
                refine w_iast hx hb hK f_s.2.1 hS (.inr rfl) (vp_ib (lo := 509) (hi := 537) (ib_add (ib_add (ib_nI (n := 506) (by decide)) (ib_mulk (k := 4) (ib_lt (n := 8) (by omega) (by decide)) (by decide) (by decide) (by decide)) (by decide) (by decide)) (ib_nI (n := 3) (by decide)) (by decide) (by decide)) (by decide) (by decide)) dX6_law_161 (fun H locs hn hq hS => ?_)
                have hZ := hZ.put (hAZ _ (.inr rfl)) hq
                have f_s : PAt G M x (nI an) (nI en) (mSp x) (mWr x) (mOp x) (upd (upd (upd (upd (upd (upd (upd (upd (upd (upd (mS x) (4 : Int32).toNatClampNeg 0) (482 + (nI an)).toNatClampNeg kind) (490 + (nI an)).toNatClampNeg vv) (498 + (nI an)).toNatClampNeg 0) (538 + (nI an)).toNatClampNeg 0) (786 + (nI an)).toNatClampNeg 0) ((506 + (4 * (nI an))) + 0).toNatClampNeg 84) ((506 + (4 * (nI an))) + 1).toNatClampNeg 84) ((506 + (4 * (nI an))) + 2).toNatClampNeg 84) ((506 + (4 * (nI an))) + 3).toNatClampNeg 84) H := f_s.row hN hn hq
                refine lv_iinc (v := 4) (lv' := [(3, .int 4), (0, .ref (M 0)), (1, .int kind), (2, .int vv)]) hx hb dX6_law_162 hl (k := 0) rfl (by decide) (by decide) rfl (fun ls hl => ?_)
                refine lv_goto (tgt := 138) hx hb dX6_law_165 (by decide) ?_
                refine lv_iload_n hx hb dX6_law_138 rfl (lv_at hl 0 rfl) ?_
                refine lv_iconst (v := 4) hx hb dX6_law_139 (by decide) ?_
                refine lv_icmp_ge (tgt := 168) hx hb dX6_law_140 (by decide) (fun h_8 => ?_) (fun h_8 => ?_)
                · refine lv_aload_n hx hb dX6_law_168 rfl (lv_at hl 1 rfl) ?_
                  refine lv_iconst (v := 0) hx hb dX6_law_169 (by decide) ?_
                  refine w_put (C := RX6) (T := TX6) (N := 18) hx hb hts i_X6_law_X6 tyX6 tyX6_ok nmX6 hown hK f_s.1 hS (.inl rfl) rfl 5 (by decide) k_X6_law_fieldLink_51 rfl rfl rfl rfl (Nat.le_of_ble_eq_true rfl) dX6_law_170 (fun H locs hn hq hS => ?_)
                  have hZ := hZ.put (hAZ _ (.inl rfl)) hq
                  have f_s : PAt G M x (nI an) (nI en) (nI 0) (mWr x) (mOp x) (upd (upd (upd (upd (upd (upd (upd (upd (upd (upd (mS x) (4 : Int32).toNatClampNeg 0) (482 + (nI an)).toNatClampNeg kind) (490 + (nI an)).toNatClampNeg vv) (498 + (nI an)).toNatClampNeg 0) (538 + (nI an)).toNatClampNeg 0) (786 + (nI an)).toNatClampNeg 0) ((506 + (4 * (nI an))) + 0).toNatClampNeg 84) ((506 + (4 * (nI an))) + 1).toNatClampNeg 84) ((506 + (4 * (nI an))) + 2).toNatClampNeg 84) ((506 + (4 * (nI an))) + 3).toNatClampNeg 84) H := f_s.rest hN hn hq
                  refine lv_aload_n hx hb dX6_law_173 rfl (lv_at hl 1 rfl) ?_
                  refine lv_iconst (v := 0) hx hb dX6_law_174 (by decide) ?_
                  refine w_put (C := RX6) (T := TX6) (N := 18) hx hb hts i_X6_law_X6 tyX6 tyX6_ok nmX6 hown hK f_s.1 hS (.inl rfl) rfl 7 (by decide) k_X6_law_fieldLink_57 rfl rfl rfl rfl (Nat.le_of_ble_eq_true rfl) dX6_law_175 (fun H locs hn hq hS => ?_)
                  have hZ := hZ.put (hAZ _ (.inl rfl)) hq
                  have f_s : PAt G M x (nI an) (nI en) (nI 0) false (mOp x) (upd (upd (upd (upd (upd (upd (upd (upd (upd (upd (mS x) (4 : Int32).toNatClampNeg 0) (482 + (nI an)).toNatClampNeg kind) (490 + (nI an)).toNatClampNeg vv) (498 + (nI an)).toNatClampNeg 0) (538 + (nI an)).toNatClampNeg 0) (786 + (nI an)).toNatClampNeg 0) ((506 + (4 * (nI an))) + 0).toNatClampNeg 84) ((506 + (4 * (nI an))) + 1).toNatClampNeg 84) ((506 + (4 * (nI an))) + 2).toNatClampNeg 84) ((506 + (4 * (nI an))) + 3).toNatClampNeg 84) H := f_s.rest hN hn hq
                  refine lv_aload_n hx hb dX6_law_178 rfl (lv_at hl 1 rfl) ?_
                  refine lv_iconst (v := 0) hx hb dX6_law_179 (by decide) ?_
                  refine w_put (C := RX6) (T := TX6) (N := 18) hx hb hts i_X6_law_X6 tyX6 tyX6_ok nmX6 hown hK f_s.1 hS (.inl rfl) rfl 8 (by decide) k_X6_law_fieldLink_81 rfl rfl rfl rfl (Nat.le_of_ble_eq_true rfl) dX6_law_180 (fun H locs hn hq hS => ?_)
                  have hZ := hZ.put (hAZ _ (.inl rfl)) hq
                  have f_s : PAt G M x (nI an) (nI en) (nI 0) false 0 (upd (upd (upd (upd (upd (upd (upd (upd (upd (upd (mS x) (4 : Int32).toNatClampNeg 0) (482 + (nI an)).toNatClampNeg kind) (490 + (nI an)).toNatClampNeg vv) (498 + (nI an)).toNatClampNeg 0) (538 + (nI an)).toNatClampNeg 0) (786 + (nI an)).toNatClampNeg 0) ((506 + (4 * (nI an))) + 0).toNatClampNeg 84) ((506 + (4 * (nI an))) + 1).toNatClampNeg 84) ((506 + (4 * (nI an))) + 2).toNatClampNeg 84) ((506 + (4 * (nI an))) + 3).toNatClampNeg 84) H := f_s.rest hN hn hq
                  obtain ⟨sv0, e_sv0⟩ : ∃ z9, upd (upd (upd (upd (upd (upd (upd (upd (upd (upd (mS x) (4 : Int32).toNatClampNeg 0) (482 + (nI an)).toNatClampNeg kind) (490 + (nI an)).toNatClampNeg vv) (498 + (nI an)).toNatClampNeg 0) (538 + (nI an)).toNatClampNeg 0) (786 + (nI an)).toNatClampNeg 0) ((506 + (4 * (nI an))) + 0).toNatClampNeg 84) ((506 + (4 * (nI an))) + 1).toNatClampNeg 84) ((506 + (4 * (nI an))) + 2).toNatClampNeg 84) ((506 + (4 * (nI an))) + 3).toNatClampNeg 84 = z9 := ⟨_, rfl⟩
                  rw [e_sv0] at f_s
                  have hg0 : gd an en 0 0 sv0 := (lawRow_gd x han kind vv e_sv0).1
                  have ho0 : ib 0 0 (sv0 (538 + nI an).toNatClampNeg) := (lawRow_gd (en := en) x han kind vv e_sv0).2
                  refine lv_iconst (v := 1) hx hb dX6_law_183 (by decide) ?_
                  refine lv_istore_n (lv' := [(3, .int 1), (0, .ref (M 0)), (1, .int kind), (2, .int vv)]) hx hb dX6_law_184 rfl hl (by decide) rfl (fun ls hl => ?_)
                  refine lv_aload_n hx hb dX6_law_185 rfl (lv_at hl 1 rfl) ?_
                  obtain ⟨⟨sp_0, wr_0, sv_0⟩, hy_0⟩ : ∃ z9, r_clause an en P 0 false sv0 = z9 := ⟨_, rfl⟩
                  refine wr_callv (va_runV (As := []) (rest := []) hC (c2_X6_clauseHere l G Z M x an en 0 false 0 sv0 hN hAZ hen han hg0 P hP hPo sp_0 wr_0 sv_0 hy_0) (cwV 0 hts gX6_law_X6_clauseHere rfl rfl rfl kd_X6_clauseHere ⟨Nat.le_of_ble_eq_true rfl, Nat.le_of_ble_eq_true rfl⟩) (a_preV hK hZ f_s.1 rfl f_s) rfl rfl hl.1 rfl (lv_room (Nat.le_of_ble_eq_true rfl)) dX6_law_186 ⟨Nat.zero_le _, Nat.zero_le _⟩) hS (fun q h => h) (fun H locs f_n hq hS => ?_)
                  have hZ := hZ.kept (fun a9 h9 => hq a9 (fun z9 => h9 (hAZ a9 ((fun q h => h) a9 z9))))
                  have f_s := f_n
                  have hc0 := E_clause (m := 0) hen han (by omega) hPo hPf hPw hg0 ho0 hy_0
                  have hz0 : 0 ≤ sp_0 ∧ sp_0 ≤ en := ⟨hc0.1, hc0.2.1.1⟩
                  refine loop_wr (nL := 4) (α := Nat × Nat × Nat × Bool × (Nat → Int32)) (fun a9 => [(0, .ref (M 0)), (1, .int kind), (2, .int vv), (3, .int (nI (a9.2.1)))]) (fun a9 H locs => ((a9.2.1) + (a9.1) = 10 ∧ gd an en 0 (a9.2.2.1) (a9.2.2.2.2) ∧ ib 0 ((a9.2.1) : Nat) ((a9.2.2.2.2) (538 + nI an).toNatClampNeg) ∧ r_lawGo an en P (a9.1) (a9.2.2.1) (a9.2.2.2.1) (a9.2.2.2.2) = r_lawGo an en P 9 sp_0 wr_0 sv_0) ∧ (PAt G M x (nI an) (nI en) (nI (a9.2.2.1)) (a9.2.2.2.1) 0 (a9.2.2.2.2) H) ∧ wS (m01 M) s.heap H locs ∧ amK Z s H) (fun a9 => a9.1) (9, 1, sp_0, wr_0, sv_0) ⟨⟨rfl, hc0.2.1, hc0.2.2.1, rfl⟩, f_s, hS, hZ⟩ (lv_sub hl [1, 2, 3, 0] rfl) (fun a9 H locs hI9 ih_k ls hl => ?_)
                  obtain ⟨f8, n8, sp_k, wr_k, sv_k⟩ := a9
                  obtain ⟨hI9, f_s, hS, hZ⟩ := hI9
                  have f_s : PAt G M x (nI an) (nI en) (nI sp_k) wr_k 0 sv_k H := f_s
                  obtain ⟨hn8, hg_k, ho_k, hV⟩ : n8 + f8 = 10 ∧ gd an en 0 sp_k sv_k ∧ ib 0 (n8 : Nat) (sv_k (538 + nI an).toNatClampNeg) ∧ r_lawGo an en P f8 sp_k wr_k sv_k = r_lawGo an en P 9 sp_0 wr_0 sv_0 := hI9
                  have hl : lv_has ls 4 [(0, .ref (M 0)), (1, .int kind), (2, .int vv), (3, .int (nI n8))] := hl
                  have hs_k : sp_k ≤ en := hg_k.1
                  obtain rfl | ⟨f, rfl⟩ : f8 = 0 ∨ ∃ m, f8 = m + 1 := by cases f8 with | zero => exact .inl rfl | succ n => exact .inr ⟨n, rfl⟩
                  · obtain rfl : n8 = 10 := by omega
                    refine lv_aload_n hx hb dX6_law_189 rfl (lv_at hl 0 rfl) ?_
                    refine r_get (C := RX6) (T := TX6) (N := 18) hx hb hts i_X6_law_X6 hown hK f_s.1 rfl 7 (by decide) k_X6_law_fieldLink_57 rfl rfl dX6_law_190 ?_
                    refine bz_ne (tgt := 231) hx hb dX6_law_193 (by decide) (fun h_9 => ?_) (fun h_9 => ?_)
                    · have h_9 : wr_k = true := h_9
                      refine lv_aload_n hx hb dX6_law_231 rfl (lv_at hl 0 rfl) ?_
                      refine r_get (C := RX6) (T := TX6) (N := 18) hx hb hts i_X6_law_X6 hown hK f_s.1 rfl 7 (by decide) k_X6_law_fieldLink_57 rfl rfl dX6_law_232 ?_
                      refine bz_ne (tgt := 249) hx hb dX6_law_235 (by decide) (fun h_10 => ?_) (fun h_10 => ?_)
                      · refine lv_bipush (v := (-10)) hx hb dX6_law_249 (by decide +kernel) ?_
                        refine lv_aload_n hx hb dX6_law_251 rfl (lv_at hl 0 rfl) ?_
                        refine r_get (C := RX6) (T := TX6) (N := 18) hx hb hts i_X6_law_X6 hown hK f_s.1 rfl 5 (by decide) k_X6_law_fieldLink_51 rfl rfl dX6_law_252 ?_
                        refine lv_isub hx hb dX6_law_255 ?_
                        have hE9 : r_lawMain x an en kind vv P = ((-10) - (nI sp_k), sp_k, wr_k, sv_k) := (by (try unfold r_lawMain); (repeat rw [if_pos h_1]); (repeat rw [if_pos h_2]); (repeat rw [if_neg h_3]); (repeat rw [if_neg h_4]); (repeat rw [if_neg h_5]); (repeat rw [if_neg h_6]); (repeat rw [if_neg h_7]); (repeat rw [if_pos h_8]); (try rw [e_sv0]); (try dsimp only); (try rw [hy_0]); (try dsimp only); rw [← hV, r_lawGo_0]; (repeat rw [if_pos h_9]); (repeat rw [if_pos h_10]); first | done | rfl)
                        exact wr_iret hx hb hr hlocks dX6_law_256 hS (by rw [hE9]; exact f_s) (by rw [hE9]; first | done | rfl)
                      · exact absurd h_9 h_10
                    · have h_9 : ¬ (wr_k = true) := h_9
                      refine lv_iload_n hx hb dX6_law_196 rfl (lv_at hl 3 rfl) ?_
                      refine lv_bipush (v := 10) hx hb dX6_law_197 (by decide +kernel) ?_
                      refine lv_icmp_ge (tgt := 231) hx hb dX6_law_199 (by decide) (fun h_11 => ?_) (fun h_11 => ?_)
                      · refine lv_aload_n hx hb dX6_law_231 rfl (lv_at hl 0 rfl) ?_
                        refine r_get (C := RX6) (T := TX6) (N := 18) hx hb hts i_X6_law_X6 hown hK f_s.1 rfl 7 (by decide) k_X6_law_fieldLink_57 rfl rfl dX6_law_232 ?_
                        refine bz_ne (tgt := 249) hx hb dX6_law_235 (by decide) (fun h_12 => ?_) (fun h_12 => ?_)
                        · exact absurd h_12 h_9
                        · refine lv_aload_n hx hb dX6_law_238 rfl (lv_at hl 0 rfl) ?_
                          refine r_get (C := RX6) (T := TX6) (N := 18) hx hb hts i_X6_law_X6 hown hK f_s.1 rfl 5 (by decide) k_X6_law_fieldLink_51 rfl rfl dX6_law_239 ?_
                          refine lv_aload_n hx hb dX6_law_242 rfl (lv_at hl 0 rfl) ?_
                          refine r_get (C := RX6) (T := TX6) (N := 18) hx hb hts i_X6_law_X6 hown hK f_s.1 rfl 6 (by decide) k_X6_law_fieldLink_54 rfl rfl dX6_law_243 ?_
                          refine lv_icmp_eq (tgt := 257) hx hb dX6_law_246 (by decide) (fun h_13 => ?_) (fun h_13 => ?_)
                          · have h_13 : (nI sp_k) = (nI en) := h_13
                            refine lv_aload_n hx hb dX6_law_257 rfl (lv_at hl 0 rfl) ?_
                            refine r_get (C := RX6) (T := TX6) (N := 18) hx hb hts i_X6_law_X6 hown hK f_s.1 rfl 1 (by decide) k_X6_law_fieldLink_9 rfl rfl dX6_law_258 ?_
                            refine lv_iconst (v := 3) hx hb dX6_law_261 (by decide) ?_
                            refine lv_dup2_11 hx hb dX6_law_262 rfl rfl ?_
                            refine r_iald hx hb hK f_s.2.1 (vp_ib (lo := 3) (hi := 3) (ib_nI (n := 3) (by decide)) (by decide) (by decide)) dX6_law_263 ?_
                            refine lv_iconst (v := 1) hx hb dX6_law_264 (by decide) ?_
                            refine lv_iadd hx hb dX6_law_265 ?_
                            refine w_iast hx hb hK f_s.2.1 hS (.inr rfl) (vp_ib (lo := 3) (hi := 3) (ib_nI (n := 3) (by decide)) (by decide) (by decide)) dX6_law_266 (fun H locs hn hq hS => ?_)
                            have hZ := hZ.put (hAZ _ (.inr rfl)) hq
                            have f_s : PAt G M x (nI an) (nI en) (nI sp_k) wr_k 0 (upd sv_k (3 : Int32).toNatClampNeg ((sv_k (3 : Int32).toNatClampNeg) + 1)) H := f_s.row hN hn hq
                            refine lv_aload_n hx hb dX6_law_267 rfl (lv_at hl 0 rfl) ?_
                            refine r_get (C := RX6) (T := TX6) (N := 18) hx hb hts i_X6_law_X6 hown hK f_s.1 rfl 4 (by decide) k_X6_law_fieldLink_78 rfl rfl dX6_law_268 ?_
                            have hE9 : r_lawMain x an en kind vv P = (nI an, sp_k, wr_k, upd sv_k (3 : Int32).toNatClampNeg ((sv_k (3 : Int32).toNatClampNeg) + 1)) := (by (try unfold r_lawMain); (repeat rw [if_pos h_1]); (repeat rw [if_pos h_2]); (repeat rw [if_neg h_3]); (repeat rw [if_neg h_4]); (repeat rw [if_neg h_5]); (repeat rw [if_neg h_6]); (repeat rw [if_neg h_7]); (repeat rw [if_pos h_8]); (try rw [e_sv0]); (try dsimp only); (try rw [hy_0]); (try dsimp only); rw [← hV, r_lawGo_0]; (repeat rw [if_neg h_9]); (repeat rw [if_pos h_11]); (repeat rw [if_neg h_12]); (repeat rw [if_pos h_13]); first | done | rfl)
                            exact wr_iret hx hb hr hlocks dX6_law_271 hS (by rw [hE9]; exact f_s) (by rw [hE9]; first | done | rfl)
                          · have h_13 : ¬ ((nI sp_k) = (nI en)) := h_13
                            refine lv_bipush (v := (-10)) hx hb dX6_law_249 (by decide +kernel) ?_
                            refine lv_aload_n hx hb dX6_law_251 rfl (lv_at hl 0 rfl) ?_
                            refine r_get (C := RX6) (T := TX6) (N := 18) hx hb hts i_X6_law_X6 hown hK f_s.1 rfl 5 (by decide) k_X6_law_fieldLink_51 rfl rfl dX6_law_252 ?_
                            refine lv_isub hx hb dX6_law_255 ?_
                            have hE9 : r_lawMain x an en kind vv P = ((-10) - (nI sp_k), sp_k, wr_k, sv_k) := (by (try unfold r_lawMain); (repeat rw [if_pos h_1]); (repeat rw [if_pos h_2]); (repeat rw [if_neg h_3]); (repeat rw [if_neg h_4]); (repeat rw [if_neg h_5]); (repeat rw [if_neg h_6]); (repeat rw [if_neg h_7]); (repeat rw [if_pos h_8]); (try rw [e_sv0]); (try dsimp only); (try rw [hy_0]); (try dsimp only); rw [← hV, r_lawGo_0]; (repeat rw [if_neg h_9]); (repeat rw [if_pos h_11]); (repeat rw [if_neg h_12]); (repeat rw [if_neg h_13]); first | done | rfl)
                            exact wr_iret hx hb hr hlocks dX6_law_256 hS (by rw [hE9]; exact f_s) (by rw [hE9]; first | done | rfl)
                      · exact absurd (show (10 : Int32) ≤ nI 10 by decide) h_11
                  · refine lv_aload_n hx hb dX6_law_189 rfl (lv_at hl 0 rfl) ?_
                    refine r_get (C := RX6) (T := TX6) (N := 18) hx hb hts i_X6_law_X6 hown hK f_s.1 rfl 7 (by decide) k_X6_law_fieldLink_57 rfl rfl dX6_law_190 ?_
                    refine bz_ne (tgt := 231) hx hb dX6_law_193 (by decide) (fun h_14 => ?_) (fun h_14 => ?_)
                    · have h_14 : wr_k = true := h_14
                      refine lv_aload_n hx hb dX6_law_231 rfl (lv_at hl 0 rfl) ?_
                      refine r_get (C := RX6) (T := TX6) (N := 18) hx hb hts i_X6_law_X6 hown hK f_s.1 rfl 7 (by decide) k_X6_law_fieldLink_57 rfl rfl dX6_law_232 ?_
                      refine bz_ne (tgt := 249) hx hb dX6_law_235 (by decide) (fun h_15 => ?_) (fun h_15 => ?_)
                      · refine lv_bipush (v := (-10)) hx hb dX6_law_249 (by decide +kernel) ?_
                        refine lv_aload_n hx hb dX6_law_251 rfl (lv_at hl 0 rfl) ?_
                        refine r_get (C := RX6) (T := TX6) (N := 18) hx hb hts i_X6_law_X6 hown hK f_s.1 rfl 5 (by decide) k_X6_law_fieldLink_51 rfl rfl dX6_law_252 ?_
                        refine lv_isub hx hb dX6_law_255 ?_
                        have hE9 : r_lawMain x an en kind vv P = ((-10) - (nI sp_k), sp_k, wr_k, sv_k) := (by (try unfold r_lawMain); (repeat rw [if_pos h_1]); (repeat rw [if_pos h_2]); (repeat rw [if_neg h_3]); (repeat rw [if_neg h_4]); (repeat rw [if_neg h_5]); (repeat rw [if_neg h_6]); (repeat rw [if_neg h_7]); (repeat rw [if_pos h_8]); (try rw [e_sv0]); (try dsimp only); (try rw [hy_0]); (try dsimp only); rw [← hV, r_lawGo_s]; (repeat rw [if_pos h_14]); (repeat rw [if_pos h_15]); first | done | rfl)
                        exact wr_iret hx hb hr hlocks dX6_law_256 hS (by rw [hE9]; exact f_s) (by rw [hE9]; first | done | rfl)
                      · exact absurd h_14 h_15
                    · have h_14 : ¬ (wr_k = true) := h_14
                      refine lv_iload_n hx hb dX6_law_196 rfl (lv_at hl 3 rfl) ?_
                      refine lv_bipush (v := 10) hx hb dX6_law_197 (by decide +kernel) ?_
                      refine lv_icmp_ge (tgt := 231) hx hb dX6_law_199 (by decide) (fun h_16 => ?_) (fun h_16 => ?_)
                      · exact absurd h_16 (show ¬ nI 10 ≤ nI n8 from nI_ge (by omega) (by decide))
                      · refine lv_aload_n hx hb dX6_law_202 rfl (lv_at hl 0 rfl) ?_
                        refine ro_call (va_runV (As := []) (rest := []) hC (c_X6_here l G M x an en sp_k wr_k 0 sv_k hen (by omega)) (cwV 0 hts gX6_law_X6_here rfl rfl rfl kd_X6_here ⟨Nat.le_of_ble_eq_true rfl, Nat.le_of_ble_eq_true rfl⟩) (ro_preV hK f_s.1 rfl f_s) rfl rfl hl.1 rfl (lv_room (Nat.le_of_ble_eq_true rfl)) dX6_law_203 ⟨Nat.zero_le _, Nat.zero_le _⟩) ?_
                        refine lv_bipush (v := 59) hx hb dX6_law_206 (by decide +kernel) ?_
                        refine lv_icmp_ne (tgt := 231) hx hb dX6_law_208 (by decide) (fun h_17 => ?_) (fun h_17 => ?_)
                        · have h_17 : ¬ ((r_here en sp_k sv_k) = 59) := h_17
                          refine lv_aload_n hx hb dX6_law_231 rfl (lv_at hl 0 rfl) ?_
                          refine r_get (C := RX6) (T := TX6) (N := 18) hx hb hts i_X6_law_X6 hown hK f_s.1 rfl 7 (by decide) k_X6_law_fieldLink_57 rfl rfl dX6_law_232 ?_
                          refine bz_ne (tgt := 249) hx hb dX6_law_235 (by decide) (fun h_18 => ?_) (fun h_18 => ?_)
                          · exact absurd h_18 h_14
                          · refine lv_aload_n hx hb dX6_law_238 rfl (lv_at hl 0 rfl) ?_
                            refine r_get (C := RX6) (T := TX6) (N := 18) hx hb hts i_X6_law_X6 hown hK f_s.1 rfl 5 (by decide) k_X6_law_fieldLink_51 rfl rfl dX6_law_239 ?_
                            refine lv_aload_n hx hb dX6_law_242 rfl (lv_at hl 0 rfl) ?_
                            refine r_get (C := RX6) (T := TX6) (N := 18) hx hb hts i_X6_law_X6 hown hK f_s.1 rfl 6 (by decide) k_X6_law_fieldLink_54 rfl rfl dX6_law_243 ?_
                            refine lv_icmp_eq (tgt := 257) hx hb dX6_law_246 (by decide) (fun h_19 => ?_) (fun h_19 => ?_)
                            · have h_19 : (nI sp_k) = (nI en) := h_19
                              refine lv_aload_n hx hb dX6_law_257 rfl (lv_at hl 0 rfl) ?_
                              refine r_get (C := RX6) (T := TX6) (N := 18) hx hb hts i_X6_law_X6 hown hK f_s.1 rfl 1 (by decide) k_X6_law_fieldLink_9 rfl rfl dX6_law_258 ?_
                              refine lv_iconst (v := 3) hx hb dX6_law_261 (by decide) ?_
                              refine lv_dup2_11 hx hb dX6_law_262 rfl rfl ?_
                              refine r_iald hx hb hK f_s.2.1 (vp_ib (lo := 3) (hi := 3) (ib_nI (n := 3) (by decide)) (by decide) (by decide)) dX6_law_263 ?_
                              refine lv_iconst (v := 1) hx hb dX6_law_264 (by decide) ?_
                              refine lv_iadd hx hb dX6_law_265 ?_
                              refine w_iast hx hb hK f_s.2.1 hS (.inr rfl) (vp_ib (lo := 3) (hi := 3) (ib_nI (n := 3) (by decide)) (by decide) (by decide)) dX6_law_266 (fun H locs hn hq hS => ?_)
                              have hZ := hZ.put (hAZ _ (.inr rfl)) hq
                              have f_s : PAt G M x (nI an) (nI en) (nI sp_k) wr_k 0 (upd sv_k (3 : Int32).toNatClampNeg ((sv_k (3 : Int32).toNatClampNeg) + 1)) H := f_s.row hN hn hq
                              refine lv_aload_n hx hb dX6_law_267 rfl (lv_at hl 0 rfl) ?_
                              refine r_get (C := RX6) (T := TX6) (N := 18) hx hb hts i_X6_law_X6 hown hK f_s.1 rfl 4 (by decide) k_X6_law_fieldLink_78 rfl rfl dX6_law_268 ?_
                              have hE9 : r_lawMain x an en kind vv P = (nI an, sp_k, wr_k, upd sv_k (3 : Int32).toNatClampNeg ((sv_k (3 : Int32).toNatClampNeg) + 1)) := (by (try unfold r_lawMain); (repeat rw [if_pos h_1]); (repeat rw [if_pos h_2]); (repeat rw [if_neg h_3]); (repeat rw [if_neg h_4]); (repeat rw [if_neg h_5]); (repeat rw [if_neg h_6]); (repeat rw [if_neg h_7]); (repeat rw [if_pos h_8]); (try rw [e_sv0]); (try dsimp only); (try rw [hy_0]); (try dsimp only); rw [← hV, r_lawGo_s]; (repeat rw [if_neg h_14]); (repeat rw [if_neg h_16]); (repeat rw [if_neg h_17]); (repeat rw [if_neg h_18]); (repeat rw [if_pos h_19]); first | done | rfl)
                              exact wr_iret hx hb hr hlocks dX6_law_271 hS (by rw [hE9]; exact f_s) (by rw [hE9]; first | done | rfl)
                            · have h_19 : ¬ ((nI sp_k) = (nI en)) := h_19
                              refine lv_bipush (v := (-10)) hx hb dX6_law_249 (by decide +kernel) ?_
                              refine lv_aload_n hx hb dX6_law_251 rfl (lv_at hl 0 rfl) ?_
                              refine r_get (C := RX6) (T := TX6) (N := 18) hx hb hts i_X6_law_X6 hown hK f_s.1 rfl 5 (by decide) k_X6_law_fieldLink_51 rfl rfl dX6_law_252 ?_
                              refine lv_isub hx hb dX6_law_255 ?_
                              have hE9 : r_lawMain x an en kind vv P = ((-10) - (nI sp_k), sp_k, wr_k, sv_k) := (by (try unfold r_lawMain); (repeat rw [if_pos h_1]); (repeat rw [if_pos h_2]); (repeat rw [if_neg h_3]); (repeat rw [if_neg h_4]); (repeat rw [if_neg h_5]); (repeat rw [if_neg h_6]); (repeat rw [if_neg h_7]); (repeat rw [if_pos h_8]); (try rw [e_sv0]); (try dsimp only); (try rw [hy_0]); (try dsimp only); rw [← hV, r_lawGo_s]; (repeat rw [if_neg h_14]); (repeat rw [if_neg h_16]); (repeat rw [if_neg h_17]); (repeat rw [if_neg h_18]); (repeat rw [if_neg h_19]); first | done | rfl)
                              exact wr_iret hx hb hr hlocks dX6_law_256 hS (by rw [hE9]; exact f_s) (by rw [hE9]; first | done | rfl)
                        · have h_17 : (r_here en sp_k sv_k) = 59 := h_17
                          refine lv_aload_n hx hb dX6_law_211 rfl (lv_at hl 0 rfl) ?_
                          refine lv_dup hx hb dX6_law_212 rfl ?_
                          refine r_get (C := RX6) (T := TX6) (N := 18) hx hb hts i_X6_law_X6 hown hK f_s.1 rfl 5 (by decide) k_X6_law_fieldLink_51 rfl rfl dX6_law_213 ?_
                          refine lv_iconst (v := 1) hx hb dX6_law_216 (by decide) ?_
                          refine lv_iadd hx hb dX6_law_217 ?_
                          refine w_put (C := RX6) (T := TX6) (N := 18) hx hb hts i_X6_law_X6 tyX6 tyX6_ok nmX6 hown hK f_s.1 hS (.inl rfl) rfl 5 (by decide) k_X6_law_fieldLink_51 rfl rfl rfl rfl (Nat.le_of_ble_eq_true rfl) dX6_law_218 (fun H locs hn hq hS => ?_)
                          have hZ := hZ.put (hAZ _ (.inl rfl)) hq
                          have hl9 := here_eq (n := 59) h_17 (by decide) hen (by omega)
                          rw [← nI_succ] at hn
                          have f_s : PAt G M x (nI an) (nI en) (nI (sp_k + 1)) wr_k 0 sv_k H := f_s.rest hN hn hq
                          refine lv_aload_n hx hb dX6_law_221 rfl (lv_at hl 0 rfl) ?_
                          obtain ⟨⟨sp_1, wr_1, sv_1⟩, hy_1⟩ : ∃ z9, r_clause an en P (sp_k + 1) wr_k sv_k = z9 := ⟨_, rfl⟩
                          refine wr_callv (va_runV (As := []) (rest := []) hC (c2_X6_clauseHere l G Z M x an en (sp_k + 1) wr_k 0 sv_k hN hAZ hen han (gd.up (sp2 := sp_k + 1) hg_k (by omega) (by omega)) P hP hPo sp_1 wr_1 sv_1 hy_1) (cwV 0 hts gX6_law_X6_clauseHere rfl rfl rfl kd_X6_clauseHere ⟨Nat.le_of_ble_eq_true rfl, Nat.le_of_ble_eq_true rfl⟩) (a_preV hK hZ f_s.1 rfl f_s) rfl rfl hl.1 rfl (lv_room (Nat.le_of_ble_eq_true rfl)) dX6_law_222 ⟨Nat.zero_le _, Nat.zero_le _⟩) hS (fun q h => h) (fun H locs f_n hq hS => ?_)
                          have hZ := hZ.kept (fun a9 h9 => hq a9 (fun z9 => h9 (hAZ a9 ((fun q h => h) a9 z9))))
                          have f_s := f_n
                          have hc1 := E_clause (m := n8) hen han (by omega) hPo hPf hPw (gd.up (sp2 := sp_k + 1) hg_k (by omega) (by omega)) ho_k hy_1
                          have hz1 : (sp_k + 1) ≤ sp_1 ∧ sp_1 ≤ en := ⟨hc1.1, hc1.2.1.1⟩
                          refine lv_iinc (v := (nI n8) + 1) (lv' := [(3, .int ((nI n8) + 1)), (0, .ref (M 0)), (1, .int kind), (2, .int vv)]) hx hb dX6_law_225 hl (k := 3) rfl rfl (by decide) rfl (fun ls hl => ?_)
                          refine lv_goto (tgt := 189) hx hb dX6_law_228 (by decide) ?_
                          have hE : r_lawGo an en P f sp_1 wr_1 sv_1 = r_lawGo an en P 9 sp_0 wr_0 sv_0 := (by rw [← hV, r_lawGo_s]; (repeat rw [if_neg h_14]); (repeat rw [if_neg h_16]); (repeat rw [if_pos h_17]); (try rw [hy_1]); (try dsimp only); first | done | rfl)
                          refine ih_k (f, n8 + 1, sp_1, wr_1, sv_1) _ _ ⟨⟨(show n8 + 1 + f = 10 by omega), hc1.2.1, hc1.2.2.1, hE⟩, f_s, hS, hZ⟩ (show f < f + 1 by omega) ls ?_
                          show lv_has ls 4 [(0, .ref (M 0)), (1, .int kind), (2, .int vv), (3, .int (nI (n8 + 1)))]
                          rw [nI_succ]
                          exact lv_sub hl [1, 2, 3, 0] rfl
                · exact absurd (by decide) h_8
      · exact absurd h_3 (an8 han)
    · exact absurd hV9 h_2
  · exact absurd hK9 h_1
theorem c2_X6_law_m (l : Launch) (G : GG) (Z : AM) (M : Nat → Nat) (x : MT) (an en : Nat) (kind vv : Int32) (P : PF6)  (hN : mN M) (hAZ : ∀ q : Nat, m01 M q → Z.1 q) (hen : en ≤ 120) (han : an < 8) (hA : (mS x) (3 : Int32).toNatClampNeg = nI an) (hE4 : (mS x) (4 : Int32).toNatClampNeg = nI en) (hK9 : r_in kind 0 6 = true) (hV9 : r_in vv 0 9 = true) (hP : cRm l G Z M x an en yX6_some wsX6_some { frames := 27, cells := 0, slots := 0, locals := 980 } 0 P) (hPo : pOK an en P) (hPf : pFr an en P) (hPw : pWr P) (r9 : Int32) (sp9 : Nat) (wr9 : Bool) (sv9 : Nat → Int32) (hy9 : r_lawMain x an en kind vv P = (r9, sp9, wr9, sv9)) : Met l yX6_law wsX6_law { frames := 30, cells := 0, slots := 0, locals := 1041 } (aP G Z [.ref (M 0), .int kind, .int vv] (fun H => MAt G M x H)) (wrQ (some (.int r9)) (fun H => PAt G M x (nI an) (nI en) (nI sp9) wr9 0 sv9 H) (m01 M)) 0 0 (m01 M) := by
  have h9 := c_X6_law_m l G Z M x an en kind vv P hN hAZ hen han hA hE4 hK9 hV9 hP hPo hPf hPw
  rw [hy9] at h9
  exact h9

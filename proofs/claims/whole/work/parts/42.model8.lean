theorem Int64.rem_int (x y : Int64) (hy : y ≠ 0) : (x - x / y * y).toInt = x.toInt.tmod y.toInt := by
  have hb : ∀ z : Int64, z.toInt = z.toInt.bmod (2 ^ 64) := fun z => (Int64.toInt_bmod_size z).symm
  rw [Int64.toInt_sub, Int64.toInt_mul, Int64.toInt_div]
  have e : (x.toInt - (((x.toInt.tdiv y.toInt).bmod (2 ^ 64) * y.toInt).bmod (2 ^ 64))).bmod (2 ^ 64) = (x.toInt.tmod y.toInt).bmod (2 ^ 64) := by
    rw [Int.sub_bmod_bmod]
    have h1 := Int.tmod_def x.toInt y.toInt
    rw [h1, Int.mul_comm y.toInt]
    rw [← Int.sub_bmod_bmod, Int.bmod_mul_bmod, Int.sub_bmod_bmod]
  rw [e]
  have hy2 : y.toInt ≠ 0 := fun h => hy (Int64.toInt_inj.mp h)
  have h2 := Int.tmod_lt_of_pos
  have hl := Int64.le_toInt y
  have hu := Int64.toInt_lt y
  have h3 : (x.toInt.tmod y.toInt).natAbs < y.toInt.natAbs := by
    rw [Int.natAbs_tmod]
    exact Nat.mod_lt _ (by omega)
  exact Int.bmod_eq_of_le (by omega) (by omega)
theorem rem_lt (x y : Int64) (hy : y ≠ 0) : (x - x / y * y).toInt.natAbs < y.toInt.natAbs := by
  have hy2 : y.toInt ≠ 0 := fun h => hy (Int64.toInt_inj.mp h)
  rw [Int64.rem_int x y hy, Int.natAbs_tmod]
  exact Nat.mod_lt _ (by omega)
def r_gcd : Nat → Int64 → Int64 → Int64
  | 0, x, _ => x
  | n + 1, x, y => if (lg_cmp y 0) = 0 then x else r_gcd n y (x - x / y * y)
theorem r_gcd_s (n : Nat) (x y : Int64) : r_gcd (n + 1) x y = if (lg_cmp y 0) = 0 then x else r_gcd n y (x - x / y * y) := rfl
theorem r_gcd_ne : ∀ (n : Nat) (x y : Int64), (x ≠ 0 ∨ y ≠ 0) → y.toInt.natAbs < n → r_gcd n x y ≠ 0
  | 0, _, _, _, h => absurd h (Nat.not_lt_zero _)
  | n + 1, x, y, h, hn => by
    rw [r_gcd_s]
    by_cases q : lg_cmp y 0 = 0
    · rw [if_pos q]
      rcases h with h | h
      · exact h
      · exact absurd q (fun q => by
          unfold lg_cmp at q
          split at q <;> first | exact absurd q (by decide) | (split at q <;> first | contradiction | exact absurd q (by decide)))
    · rw [if_neg q]
      exact r_gcd_ne n y _ (.inl (lcmp_ne q)) (by have := rem_lt x y (lcmp_ne q); omega)
def r_divisor (ab be : Int64) : Int64 := r_gcd (be.toInt.natAbs + 1) (if 0 ≤ (lg_cmp ab 0) then ab else -ab) be
set_option maxHeartbeats 4000000 in
set_option maxRecDepth 100000 in
theorem c_X6_divisor (l : Launch) (G : GG) (ab be : Int64)  : Met l yX6_divisor wsX6_divisor { frames := 0, cells := 0, slots := 0, locals := 0 } (roP G [.long ab, .long be] (fun H => True)) (roQ (some (.long (r_divisor ab be)))) 0 0 nF := by
  refine Met.ofW (cc := cX6_divisor) (maxL := 10) (ret := (some .long)) (by decide) rfl ?_
  intro p e s m args below meth c s₁ Bd hml hv
  obtain ⟨rfl, hK, hB⟩ := hv
  have hx := Bd.exec
  have hb := Bd.bytes
  have hr := Bd.returns
  have hts := atoms_spec (ws := wsX6_divisor) Bd.pre
  have hown : s.vm.findClass RX6 = some m.cls := findClass_of_methodNamed Bd.named
  have hlocks := Bd.notSynchronized
  have hC : CallFix p m c cX6_divisor 10 s _ wsX6_divisor RX6 := ⟨hx, hb, hml, hown, hts⟩
  have hl := lv_entry ([.long ab, .long be]) (n := 10) (Nat.le_of_ble_eq_true rfl)
  rw [lg_entry_eq]
  generalize (lg_sl ([.long ab, .long be]) ++ List.replicate (10 - (lg_sl ([.long ab, .long be])).length) Slot.unset).toArray = ls at hl ⊢
  have hl : lv_has ls 10 [(0, .long ab), (2, .long be)] := hl
  refine lv_lload_n hx hb dX6_divisor_0 rfl (lv_at hl 0 rfl) ?_
  refine lv_lconst (v := 0) hx hb dX6_divisor_1 (by decide) ?_
  refine W.lcmp hx hb dX6_divisor_2 ?_
  refine join_at (nL := 10) 12 [(0, .long ab), (2, .long be)] [.long (if 0 ≤ (lg_cmp ab 0) then ab else -ab)] (fun ls hl => ?_) (fun J_1 => ?_)
  · refine lv_lstore (lv' := [(4, .long (if 0 ≤ (lg_cmp ab 0) then ab else -ab)), (0, .long ab), (2, .long be)]) hx hb dX6_divisor_12 hl (by decide) rfl (fun ls hl => ?_)
    refine lv_lload_n hx hb dX6_divisor_14 rfl (lv_at hl 2 rfl) ?_
    refine lv_lstore (lv' := [(6, .long be), (4, .long (if 0 ≤ (lg_cmp ab 0) then ab else -ab)), (0, .long ab), (2, .long be)]) hx hb dX6_divisor_15 hl (by decide) rfl (fun ls hl => ?_)
    refine loop_at (nL := 10) (α := Nat × Int64 × Int64) (fun a9 => [(0, .long ab), (2, .long be), (4, .long (a9.2.1)), (6, .long (a9.2.2))]) (fun a9 => a9.2.2.toInt.natAbs < a9.1 ∧ r_gcd a9.1 a9.2.1 a9.2.2 = r_gcd (be.toInt.natAbs + 1) (if 0 ≤ (lg_cmp ab 0) then ab else -ab) be) (fun a9 => a9.1) (be.toInt.natAbs + 1, (if 0 ≤ (lg_cmp ab 0) then ab else -ab), be) ⟨Nat.lt_succ_self _, rfl⟩ (lv_sub hl [2, 3, 1, 0] rfl) (fun a9 hI9 ih ls hl => ?_)
    obtain ⟨n, gx, gy⟩ := a9
    obtain ⟨hn9, hV⟩ : gy.toInt.natAbs < n ∧ r_gcd n gx gy = r_gcd (be.toInt.natAbs + 1) (if 0 ≤ (lg_cmp ab 0) then ab else -ab) be := hI9
    obtain ⟨n, rfl⟩ : ∃ m, n = m + 1 := ⟨n - 1, by omega⟩
    have hl : lv_has ls 10 [(0, .long ab), (2, .long be), (4, .long gx), (6, .long gy)] := hl
    refine lv_lload hx hb dX6_divisor_17 (lv_at hl 3 rfl) ?_
    refine lv_lconst (v := 0) hx hb dX6_divisor_19 (by decide) ?_
    refine W.lcmp hx hb dX6_divisor_20 ?_
    refine lv_if_eq (tgt := 42) hx hb dX6_divisor_21 (by decide) (fun h_2 => ?_) (fun h_2 => ?_)
    · refine lv_lload hx hb dX6_divisor_42 (lv_at hl 2 rfl) ?_
      exact ro_lret hx hb hr hlocks dX6_divisor_44 (by (try unfold r_divisor); rw [← hV, r_gcd_s]; (repeat rw [if_pos h_2]); first | done | rfl)
    · refine lv_lload hx hb dX6_divisor_24 (lv_at hl 2 rfl) ?_
      refine lv_lload hx hb dX6_divisor_26 (lv_at hl 3 rfl) ?_
      refine lv_lrem hx hb dX6_divisor_28 (lcmp_ne h_2) ?_
      refine lv_lstore (lv' := [(8, .long (gx - gx / gy * gy)), (0, .long ab), (2, .long be), (4, .long gx), (6, .long gy)]) hx hb dX6_divisor_29 hl (by decide) rfl (fun ls hl => ?_)
      refine lv_lload hx hb dX6_divisor_31 (lv_at hl 4 rfl) ?_
      refine lv_lstore (lv' := [(4, .long gy), (8, .long (gx - gx / gy * gy)), (0, .long ab), (2, .long be), (6, .long gy)]) hx hb dX6_divisor_33 hl (by decide) rfl (fun ls hl => ?_)
      refine lv_lload hx hb dX6_divisor_35 (lv_at hl 1 rfl) ?_
      refine lv_lstore (lv' := [(6, .long (gx - gx / gy * gy)), (4, .long gy), (8, .long (gx - gx / gy * gy)), (0, .long ab), (2, .long be)]) hx hb dX6_divisor_37 hl (by decide) rfl (fun ls hl => ?_)
      refine lv_goto (tgt := 17) hx hb dX6_divisor_39 (by decide) ?_
      have hE : r_gcd n gy (gx - gx / gy * gy) = r_gcd (be.toInt.natAbs + 1) (if 0 ≤ (lg_cmp ab 0) then ab else -ab) be := (by rw [← hV, r_gcd_s]; (repeat rw [if_neg h_2]); first | done | rfl)
      refine ih (n, gy, gx - gx / gy * gy) ⟨(by have := rem_lt gx gy (lcmp_ne h_2); show (gx - gx / gy * gy).toInt.natAbs < n; omega), hE⟩ (show n < n + 1 by omega) ls ?_
      exact lv_sub hl [3, 4, 1, 0] rfl
  · refine lv_if_ge (tgt := 11) hx hb dX6_divisor_3 (by decide) (fun h_3 => ?_) (fun h_3 => ?_)
    · refine lv_lload_n hx hb dX6_divisor_11 rfl (lv_at hl 0 rfl) ?_
      have hJ := J_1; (repeat rw [if_pos h_3] at hJ)
      first | exact hJ ls (lv_sub hl [0, 1] rfl) | ((repeat rw [if_pos h_3] at hl); (repeat rw [if_pos h_3]); exact hJ ls (lv_sub hl [0, 1] rfl))
    · refine lv_lload_n hx hb dX6_divisor_6 rfl (lv_at hl 0 rfl) ?_
      refine lv_lneg hx hb dX6_divisor_7 ?_
      refine lv_goto (tgt := 12) hx hb dX6_divisor_8 (by decide) ?_
      have hJ := J_1; (repeat rw [if_neg h_3] at hJ)
      first | exact hJ ls (lv_sub hl [0, 1] rfl) | ((repeat rw [if_neg h_3] at hl); (repeat rw [if_neg h_3]); exact hJ ls (lv_sub hl [0, 1] rfl))
theorem r_divisor_ne (ab be : Int64) (h : be ≠ 0) : r_divisor ab be ≠ 0 := r_gcd_ne _ _ _ (.inr h) (Nat.lt_succ_self _)
theorem kd_X6_divisor : yX6_divisor.cls ≠ "java/lang/invoke/MethodHandle" ∧ yX6_divisor.cls ≠ "java/lang/invoke/VarHandle" ∧ (parseMethodDescriptor yX6_divisor.desc).map (fun d => d.parameters.length) = some 2 := by decide +kernel
def r_lowest (ab be : Int64) (part : Int32) : Int64 := (if part = 0 then ab else be) / (r_divisor ab be)
set_option maxHeartbeats 4000000 in
set_option maxRecDepth 100000 in
theorem c_X6_lowest (l : Launch) (G : GG) (ab be : Int64) (part : Int32) (hbe : be ≠ 0) : Met l yX6_lowest wsX6_lowest { frames := 1, cells := 0, slots := 0, locals := 29 } (roP G [.long ab, .long be, .int part] (fun H => True)) (roQ (some (.long (r_lowest ab be part)))) 0 0 nF := by
  refine Met.ofW (cc := cX6_lowest) (maxL := 5) (ret := (some .long)) (by decide) rfl ?_
  intro p e s m args below meth c s₁ Bd hml hv
  obtain ⟨rfl, hK, hB⟩ := hv
  have hx := Bd.exec
  have hb := Bd.bytes
  have hr := Bd.returns
  have hts := atoms_spec (ws := wsX6_lowest) Bd.pre
  have hown : s.vm.findClass RX6 = some m.cls := findClass_of_methodNamed Bd.named
  have hlocks := Bd.notSynchronized
  have hC : CallFix p m c cX6_lowest 5 s _ wsX6_lowest RX6 := ⟨hx, hb, hml, hown, hts⟩
  have hl := lv_entry ([.long ab, .long be, .int part]) (n := 5) (Nat.le_of_ble_eq_true rfl)
  rw [lg_entry_eq]
  generalize (lg_sl ([.long ab, .long be, .int part]) ++ List.replicate (5 - (lg_sl ([.long ab, .long be, .int part])).length) Slot.unset).toArray = ls at hl ⊢
  have hl : lv_has ls 5 [(0, .long ab), (2, .long be), (4, .int part)] := hl
  refine lv_iload hx hb dX6_lowest_0 (lv_at hl 2 rfl) ?_
  refine join_at (nL := 5) 10 [(0, .long ab), (2, .long be), (4, .int part)] [.long (if part = 0 then ab else be)] (fun ls hl => ?_) (fun J_1 => ?_)
  · refine lv_lload_n hx hb dX6_lowest_10 rfl (lv_at hl 0 rfl) ?_
    refine lv_lload_n hx hb dX6_lowest_11 rfl (lv_at hl 1 rfl) ?_
    refine ro_call (va_runS (As := [.long ab, .long be]) (rest := [.long (if part = 0 then ab else be)]) hC (c_X6_divisor l G ab be) (va_cwS 2 hts gX6_lowest_X6_divisor rfl rfl rfl kd_X6_divisor ⟨Nat.le_of_ble_eq_true rfl, Nat.le_of_ble_eq_true rfl⟩) (ro_preS hK trivial) rfl rfl hl.1 rfl (lv_room (Nat.le_of_ble_eq_true rfl)) dX6_lowest_12 ⟨Nat.zero_le _, Nat.zero_le _⟩) ?_
    refine lv_ldiv hx hb dX6_lowest_15 (r_divisor_ne _ _ hbe) ?_
    exact ro_lret hx hb hr hlocks dX6_lowest_16 rfl
  · refine lv_if_ne (tgt := 9) hx hb dX6_lowest_2 (by decide) (fun h_2 => ?_) (fun h_2 => ?_)
    · refine lv_lload_n hx hb dX6_lowest_9 rfl (lv_at hl 1 rfl) ?_
      have hJ := J_1; (repeat rw [if_neg h_2] at hJ)
      first | exact hJ ls (lv_sub hl [0, 1, 2] rfl) | ((repeat rw [if_neg h_2] at hl); (repeat rw [if_neg h_2]); exact hJ ls (lv_sub hl [0, 1, 2] rfl))
    · refine lv_lload_n hx hb dX6_lowest_5 rfl (lv_at hl 0 rfl) ?_
      refine lv_goto (tgt := 10) hx hb dX6_lowest_6 (by decide) ?_
      have hJ := J_1; (repeat rw [if_pos h_2] at hJ)
      first | exact hJ ls (lv_sub hl [0, 1, 2] rfl) | ((repeat rw [if_pos h_2] at hl); (repeat rw [if_pos h_2]); exact hJ ls (lv_sub hl [0, 1, 2] rfl))
theorem k_X6_chance_constantLong_178 : Cond.constantLong RX6 178 (-9223372036854775808) ∈ wsX6_chance := by decide +kernel
theorem k_X6_chance_constantLong_184 : Cond.constantLong RX6 184 (200) ∈ wsX6_chance := by decide +kernel
theorem kd_X6_lowest : yX6_lowest.cls ≠ "java/lang/invoke/MethodHandle" ∧ yX6_lowest.cls ≠ "java/lang/invoke/VarHandle" ∧ (parseMethodDescriptor yX6_lowest.desc).map (fun d => d.parameters.length) = some 3 := by decide +kernel
def r_chance (x : MT) (law : Int32) (answer : Int32) (part : Int32) : Int64 := if (r_isLaw x law) = true then if (r_isAnswer x answer) = true then if (r_in part 0 1) = true then r_lowest (r_chanceOf x law answer) 200 part else (-9223372036854775808) else (-9223372036854775808) else (-9223372036854775808)
set_option maxHeartbeats 4000000 in
set_option maxRecDepth 100000 in
theorem c_X6_chance (l : Launch) (G : GG) (M : Nat → Nat) (x : MT) (law : Int32) (answer : Int32) (part : Int32)  (hI : mI (mS x)) (hO : mO (mS x)) (hMW : mW (mS x)) (hN : mN M) : Met l yX6_chance wsX6_chance { frames := 6, cells := 0, slots := 0, locals := 150 } (roP G [.ref (M 0), .int law, .int answer, .int part] (fun H => MAt G M x H)) (wrQ (some (.long ((r_chance x law answer part)))) (fun H => MAt G M x H) (m3 M)) 0 0 (m3 M) := by
  refine Met.ofW (cc := cX6_chance) (maxL := 4) (ret := (some .long)) (by decide) rfl ?_
  intro p e s m args below meth c s₁ Bd hml hv
  obtain ⟨rfl, hK, hB⟩ := hv
  have hx := Bd.exec
  have hb := Bd.bytes
  have hr := Bd.returns
  have hts := atoms_spec (ws := wsX6_chance) Bd.pre
  have hown : s.vm.findClass RX6 = some m.cls := findClass_of_methodNamed Bd.named
  have hlocks := Bd.notSynchronized
  have hC : CallFix p m c cX6_chance 4 s _ wsX6_chance RX6 := ⟨hx, hb, hml, hown, hts⟩
  have hl := lv_entry ([.ref (M 0), .int law, .int answer, .int part]) (n := 4) (Nat.le_of_ble_eq_true rfl)
  rw [lg_entry_eq]
  generalize (lg_sl ([.ref (M 0), .int law, .int answer, .int part]) ++ List.replicate (4 - (lg_sl ([.ref (M 0), .int law, .int answer, .int part])).length) Slot.unset).toArray = ls at hl ⊢
  have hl : lv_has ls 4 [(0, .ref (M 0)), (1, .int law), (2, .int answer), (3, .int part)] := hl
  have hS : wS (m3 M) s.heap s.heap [] := wS.rf
  have f_s := hB
  have hZ := trivial
  refine lv_aload_n hx hb dX6_chance_0 rfl (lv_at hl 0 rfl) ?_
  refine lv_iload_n hx hb dX6_chance_1 rfl (lv_at hl 1 rfl) ?_
  refine ro_call (va_runV (As := [.int law]) (rest := []) hC (c_X6_isLaw l G M x law) (cwV 1 hts gX6_chance_X6_isLaw rfl rfl rfl kd_X6_isLaw ⟨Nat.le_of_ble_eq_true rfl, Nat.le_of_ble_eq_true rfl⟩) (ro_preV hK f_s.1 rfl f_s) rfl rfl hl.1 rfl (lv_room (Nat.le_of_ble_eq_true rfl)) dX6_chance_2 ⟨Nat.zero_le _, Nat.zero_le _⟩) ?_
  refine bz_eq (tgt := 25) hx hb dX6_chance_5 (by decide) (fun h_1 => ?_) (fun h_1 => ?_)
  · refine lv_ldc2 (v := (-9223372036854775808)) hx hb hown (hts _ k_X6_chance_constantLong_178) dX6_chance_25 ?_
    have hE9 : r_chance x law answer part = (-9223372036854775808) := (by (try unfold r_chance); (repeat rw [if_neg h_1]); first | done | rfl)
    exact wr_lret hx hb hr hlocks dX6_chance_28 hS (by first | exact f_s | (rw [hE9]; exact f_s)) (by rw [hE9]; first | done | rfl)
  · refine lv_aload_n hx hb dX6_chance_8 rfl (lv_at hl 0 rfl) ?_
    refine lv_iload_n hx hb dX6_chance_9 rfl (lv_at hl 2 rfl) ?_
    refine ro_call (va_runV (As := [.int answer]) (rest := []) hC (c_X6_isAnswer l G M x answer) (cwV 1 hts gX6_chance_X6_isAnswer rfl rfl rfl kd_X6_isAnswer ⟨Nat.le_of_ble_eq_true rfl, Nat.le_of_ble_eq_true rfl⟩) (ro_preV hK f_s.1 rfl f_s) rfl rfl hl.1 rfl (lv_room (Nat.le_of_ble_eq_true rfl)) dX6_chance_10 ⟨Nat.zero_le _, Nat.zero_le _⟩) ?_
    refine bz_eq (tgt := 25) hx hb dX6_chance_13 (by decide) (fun h_2 => ?_) (fun h_2 => ?_)
    · refine lv_ldc2 (v := (-9223372036854775808)) hx hb hown (hts _ k_X6_chance_constantLong_178) dX6_chance_25 ?_
      have hE9 : r_chance x law answer part = (-9223372036854775808) := (by (try unfold r_chance); (repeat rw [if_pos h_1]); (repeat rw [if_neg h_2]); first | done | rfl)
      exact wr_lret hx hb hr hlocks dX6_chance_28 hS (by first | exact f_s | (rw [hE9]; exact f_s)) (by rw [hE9]; first | done | rfl)
    · refine lv_iload_n hx hb dX6_chance_16 rfl (lv_at hl 3 rfl) ?_
      refine lv_iconst (v := 0) hx hb dX6_chance_17 (by decide) ?_
      refine lv_iconst (v := 1) hx hb dX6_chance_18 (by decide) ?_
      refine ro_call (va_runS (As := [.int part, .int 0, .int 1]) (rest := []) hC (c_X6_in l G part 0 1) (va_cwS 3 hts gX6_chance_X6_in rfl rfl rfl kd_X6_in ⟨Nat.le_of_ble_eq_true rfl, Nat.le_of_ble_eq_true rfl⟩) (ro_preS hK trivial) rfl rfl hl.1 rfl (lv_room (Nat.le_of_ble_eq_true rfl)) dX6_chance_19 ⟨Nat.zero_le _, Nat.zero_le _⟩) ?_
      refine bz_ne (tgt := 29) hx hb dX6_chance_22 (by decide) (fun h_3 => ?_) (fun h_3 => ?_)
      · refine lv_aload_n hx hb dX6_chance_29 rfl (lv_at hl 0 rfl) ?_
        refine lv_iload_n hx hb dX6_chance_30 rfl (lv_at hl 1 rfl) ?_
        refine lv_iload_n hx hb dX6_chance_31 rfl (lv_at hl 2 rfl) ?_
        refine wr_call (va_runV (As := [.int law, .int answer]) (rest := []) hC (c_X6_chanceOf l G M x law answer hI hO hMW hN (ib.weak (isLaw_ib hI h_1) (by decide) (by decide)) (ib.weak (isAnswer_ib hI h_2) (by decide) (by decide)) (isLaw_wf hI hMW h_1)) (cwV 2 hts gX6_chance_X6_chanceOf rfl rfl rfl kd_X6_chanceOf ⟨Nat.le_of_ble_eq_true rfl, Nat.le_of_ble_eq_true rfl⟩) (ro_preV hK f_s.1 rfl f_s) rfl rfl hl.1 rfl (lv_room (Nat.le_of_ble_eq_true rfl)) dX6_chance_32 ⟨Nat.zero_le _, Nat.zero_le _⟩) hS (fun q h => h) (fun H locs f_n hq hS => ?_)
        have f_s := f_n
        refine lv_ldc2 (v := 200) hx hb hown (hts _ k_X6_chance_constantLong_184) dX6_chance_35 ?_
        refine lv_iload_n hx hb dX6_chance_38 rfl (lv_at hl 3 rfl) ?_
        refine ro_call (va_runS (As := [.long (r_chanceOf x law answer), .long 200, .int part]) (rest := []) hC (c_X6_lowest l G (r_chanceOf x law answer) 200 part (by decide)) (va_cwS 3 hts gX6_chance_X6_lowest rfl rfl rfl kd_X6_lowest ⟨Nat.le_of_ble_eq_true rfl, Nat.le_of_ble_eq_true rfl⟩) (ro_preS hK trivial) rfl rfl hl.1 rfl (lv_room (Nat.le_of_ble_eq_true rfl)) dX6_chance_39 ⟨Nat.zero_le _, Nat.zero_le _⟩) ?_
        have hE9 : r_chance x law answer part = r_lowest (r_chanceOf x law answer) 200 part := (by (try unfold r_chance); (repeat rw [if_pos h_1]); (repeat rw [if_pos h_2]); (repeat rw [if_pos h_3]); first | done | rfl)
        exact wr_lret hx hb hr hlocks dX6_chance_42 hS (by first | exact f_s | (rw [hE9]; exact f_s)) (by rw [hE9]; first | done | rfl)
      · refine lv_ldc2 (v := (-9223372036854775808)) hx hb hown (hts _ k_X6_chance_constantLong_178) dX6_chance_25 ?_
        have hE9 : r_chance x law answer part = (-9223372036854775808) := (by (try unfold r_chance); (repeat rw [if_pos h_1]); (repeat rw [if_pos h_2]); (repeat rw [if_neg h_3]); first | done | rfl)
        exact wr_lret hx hb hr hlocks dX6_chance_28 hS (by first | exact f_s | (rw [hE9]; exact f_s)) (by rw [hE9]; first | done | rfl)
theorem and1 (x : Int32) : x &&& 1 = 0 ∨ x &&& 1 = 1 := by
  have h : (x &&& 1).toUInt32.toNat = x.toUInt32.toNat % 2 := by
    show (x.toUInt32 &&& 1).toNat = _
    rw [UInt32.toNat_and]
    exact Nat.and_one_is_mod _
  rcases Nat.mod_two_eq_zero_or_one x.toUInt32.toNat with q | q
  · left
    exact congrArg UInt32.toInt32 (UInt32.toNat_inj.mp (by rw [h, q]; rfl) : (x &&& 1).toUInt32 = (0 : Int32).toUInt32)
  · right
    exact congrArg UInt32.toInt32 (UInt32.toNat_inj.mp (by rw [h, q]; rfl) : (x &&& 1).toUInt32 = (1 : Int32).toUInt32)
theorem count1_it (set : Int32) : ∀ k : Nat, k ≤ 30 → ib 0 k (r_count1It set 0 k)
  | 0, _ => ib_nI (n := 0) (by decide)
  | k + 1, hk => by
    have h := count1_it set k (by omega)
    have e : r_count1It set 0 (k + 1) = r_count1It set 0 k + ((set >>> ((nI k) &&& 31)) &&& 1) := rfl
    rw [e]
    rcases and1 (set >>> ((nI k) &&& 31)) with q | q <;> rw [q]
    · exact ((ib_add h (ib_nI (n := 0) (by decide)) (by omega) (by omega)) : ib _ _ _).weak (by omega) (by omega)
    · exact ((ib_add h (ib_nI (n := 1) (by decide)) (by omega) (by omega)) : ib _ _ _).weak (by omega) (by omega)
theorem count1_ib (set : Int32) : ib 0 30 (r_count1 set) := count1_it set 30 (Nat.le_refl _)
def r_pow : Nat → Int64 → Int64
  | 0, v => v
  | k + 1, v => r_pow k (v * 200)
theorem r_few_le {x : MT} {set : Int32} (h : r_isFew x set = true) : (r_count1 set).toNatClampNeg ≤ 8 := by
  have h2 : r_count1 set ≤ 8 := by
    by_cases q : 8 < r_count1 set
    · unfold r_isFew at h
      simp [q] at h
    · exact Int32.not_lt.mp q
  exact clamp_le (n := 8) h2 (by decide)
theorem r_pow_ne {k : Nat} (h : k ≤ 8) : r_pow k 1 ≠ 0 := by
  match k, h with
  | 0, _ => decide
  | 1, _ => decide
  | 2, _ => decide
  | 3, _ => decide
  | 4, _ => decide
  | 5, _ => decide
  | 6, _ => decide
  | 7, _ => decide
  | 8, _ => decide
theorem nI_gt0 {k : Nat} (h : k < 1000) : ¬ nI (k + 1) ≤ 0 := fun q => by
  have h1 : (nI (k + 1)).toInt ≤ 0 := by simpa using Int32.le_iff_toInt_le.mp q
  have h2 : (nI (k + 1)).toInt = ((k + 1 : Nat) : Int) := Int32.toInt_ofNat_of_lt (by omega)
  omega
theorem k_X6_odds_constantLong_178 : Cond.constantLong RX6 178 (-9223372036854775808) ∈ wsX6_odds := by decide +kernel
theorem k_X6_odds_constantLong_184 : Cond.constantLong RX6 184 (200) ∈ wsX6_odds := by decide +kernel
def r_odds (x : MT) (law : Int32) (set : Int32) (part : Int32) : Int64 := if (r_isLaw x law) = true then if (r_isFew x set) = true then if (r_in part 0 1) = true then r_lowest (r_oddsOf x law set) (r_pow ((r_count1 set).toNatClampNeg) 1) part else (-9223372036854775808) else (-9223372036854775808) else (-9223372036854775808)
set_option maxHeartbeats 4000000 in
set_option maxRecDepth 100000 in
theorem c_X6_odds (l : Launch) (G : GG) (M : Nat → Nat) (x : MT) (law : Int32) (set : Int32) (part : Int32)  (hI : mI (mS x)) (hO : mO (mS x)) (hMW : mW (mS x)) (hN : mN M) : Met l yX6_odds wsX6_odds { frames := 7, cells := 0, slots := 0, locals := 175 } (roP G [.ref (M 0), .int law, .int set, .int part] (fun H => MAt G M x H)) (wrQ (some (.long ((r_odds x law set part)))) (fun H => MAt G M x H) (m3 M)) 0 0 (m3 M) := by
  refine Met.ofW (cc := cX6_odds) (maxL := 7) (ret := (some .long)) (by decide) rfl ?_
  intro p e s m args below meth c s₁ Bd hml hv
  obtain ⟨rfl, hK, hB⟩ := hv
  have hx := Bd.exec
  have hb := Bd.bytes
  have hr := Bd.returns
  have hts := atoms_spec (ws := wsX6_odds) Bd.pre
  have hown : s.vm.findClass RX6 = some m.cls := findClass_of_methodNamed Bd.named
  have hlocks := Bd.notSynchronized
  have hC : CallFix p m c cX6_odds 7 s _ wsX6_odds RX6 := ⟨hx, hb, hml, hown, hts⟩
  have hl := lv_entry ([.ref (M 0), .int law, .int set, .int part]) (n := 7) (Nat.le_of_ble_eq_true rfl)
  rw [lg_entry_eq]
  generalize (lg_sl ([.ref (M 0), .int law, .int set, .int part]) ++ List.replicate (7 - (lg_sl ([.ref (M 0), .int law, .int set, .int part])).length) Slot.unset).toArray = ls at hl ⊢
  have hl : lv_has ls 7 [(0, .ref (M 0)), (1, .int law), (2, .int set), (3, .int part)] := hl
  have hS : wS (m3 M) s.heap s.heap [] := wS.rf
  have f_s := hB
  have hZ := trivial
  have hp30 : (r_count1 set).toNatClampNeg ≤ 30 := by have := ((count1_ib set).clamp (by decide)).2; omega
  refine lv_aload_n hx hb dX6_odds_0 rfl (lv_at hl 0 rfl) ?_
  refine lv_iload_n hx hb dX6_odds_1 rfl (lv_at hl 1 rfl) ?_
  refine ro_call (va_runV (As := [.int law]) (rest := []) hC (c_X6_isLaw l G M x law) (cwV 1 hts gX6_odds_X6_isLaw rfl rfl rfl kd_X6_isLaw ⟨Nat.le_of_ble_eq_true rfl, Nat.le_of_ble_eq_true rfl⟩) (ro_preV hK f_s.1 rfl f_s) rfl rfl hl.1 rfl (lv_room (Nat.le_of_ble_eq_true rfl)) dX6_odds_2 ⟨Nat.zero_le _, Nat.zero_le _⟩) ?_
  refine bz_eq (tgt := 25) hx hb dX6_odds_5 (by decide) (fun h_1 => ?_) (fun h_1 => ?_)
  · refine lv_ldc2 (v := (-9223372036854775808)) hx hb hown (hts _ k_X6_odds_constantLong_178) dX6_odds_25 ?_
    have hE9 : r_odds x law set part = (-9223372036854775808) := (by (try unfold r_odds); (repeat rw [if_neg h_1]); first | done | rfl)
    exact wr_lret hx hb hr hlocks dX6_odds_28 hS (by first | exact f_s | (rw [hE9]; exact f_s)) (by rw [hE9]; first | done | rfl)
  · refine lv_aload_n hx hb dX6_odds_8 rfl (lv_at hl 0 rfl) ?_
    refine lv_iload_n hx hb dX6_odds_9 rfl (lv_at hl 2 rfl) ?_
    refine ro_call (va_runV (As := [.int set]) (rest := []) hC (c_X6_isFew l G M x set hI hO) (cwV 1 hts gX6_odds_X6_isFew rfl rfl rfl kd_X6_isFew ⟨Nat.le_of_ble_eq_true rfl, Nat.le_of_ble_eq_true rfl⟩) (ro_preV hK f_s.1 rfl f_s) rfl rfl hl.1 rfl (lv_room (Nat.le_of_ble_eq_true rfl)) dX6_odds_10 ⟨Nat.zero_le _, Nat.zero_le _⟩) ?_
    refine bz_eq (tgt := 25) hx hb dX6_odds_13 (by decide) (fun h_2 => ?_) (fun h_2 => ?_)
    · refine lv_ldc2 (v := (-9223372036854775808)) hx hb hown (hts _ k_X6_odds_constantLong_178) dX6_odds_25 ?_
      have hE9 : r_odds x law set part = (-9223372036854775808) := (by (try unfold r_odds); (repeat rw [if_pos h_1]); (repeat rw [if_neg h_2]); first | done | rfl)
      exact wr_lret hx hb hr hlocks dX6_odds_28 hS (by first | exact f_s | (rw [hE9]; exact f_s)) (by rw [hE9]; first | done | rfl)
    · refine lv_iload_n hx hb dX6_odds_16 rfl (lv_at hl 3 rfl) ?_
      refine lv_iconst (v := 0) hx hb dX6_odds_17 (by decide) ?_
      refine lv_iconst (v := 1) hx hb dX6_odds_18 (by decide) ?_
      refine ro_call (va_runS (As := [.int part, .int 0, .int 1]) (rest := []) hC (c_X6_in l G part 0 1) (va_cwS 3 hts gX6_odds_X6_in rfl rfl rfl kd_X6_in ⟨Nat.le_of_ble_eq_true rfl, Nat.le_of_ble_eq_true rfl⟩) (ro_preS hK trivial) rfl rfl hl.1 rfl (lv_room (Nat.le_of_ble_eq_true rfl)) dX6_odds_19 ⟨Nat.zero_le _, Nat.zero_le _⟩) ?_
      refine bz_ne (tgt := 29) hx hb dX6_odds_22 (by decide) (fun h_3 => ?_) (fun h_3 => ?_)
      · refine lv_lconst (v := 1) hx hb dX6_odds_29 (by decide) ?_
        refine lv_lstore (lv' := [(4, .long 1), (0, .ref (M 0)), (1, .int law), (2, .int set), (3, .int part)]) hx hb dX6_odds_30 hl (by decide) rfl (fun ls hl => ?_)
        refine lv_iload_n hx hb dX6_odds_32 rfl (lv_at hl 3 rfl) ?_
        refine ro_call (va_runS (As := [.int set]) (rest := []) hC (c_X6_count1 l G set) (va_cwS 1 hts gX6_odds_X6_count1 rfl rfl rfl kd_X6_count1 ⟨Nat.le_of_ble_eq_true rfl, Nat.le_of_ble_eq_true rfl⟩) (ro_preS hK trivial) rfl rfl hl.1 rfl (lv_room (Nat.le_of_ble_eq_true rfl)) dX6_odds_33 ⟨Nat.zero_le _, Nat.zero_le _⟩) ?_
        refine lv_topi (fun z9 ez9 => ?_)
        have ez8 : z9 = nI (r_count1 set).toNatClampNeg := ez9.trans (cnt_beq (count1_ib set) (by decide))
        clear ez9
        subst ez8
        refine lv_istore (lv' := [(6, .int (nI (r_count1 set).toNatClampNeg)), (4, .long 1), (0, .ref (M 0)), (1, .int law), (2, .int set), (3, .int part)]) hx hb dX6_odds_36 hl (by decide) rfl (fun ls hl => ?_)
        refine loop_wr (nL := 7) (α := Nat × Int64) (fun a9 => [(0, .ref (M 0)), (1, .int law), (2, .int set), (3, .int part), (4, .long (a9.2)), (6, .int (nI (a9.1)))]) (fun a9 H locs => (a9.1 ≤ 30 ∧ r_pow a9.1 a9.2 = r_pow ((r_count1 set).toNatClampNeg) 1) ∧ (MAt G M x H) ∧ wS (m3 M) s.heap H locs ∧ True) (fun a9 => a9.1) ((r_count1 set).toNatClampNeg, 1) ⟨⟨hp30, rfl⟩, f_s, hS, hZ⟩ (lv_sub hl [2, 3, 4, 5, 1, 0] rfl) (fun a9 H locs hI9 ih ls hl => ?_)
        obtain ⟨k, pv⟩ := a9
        obtain ⟨hI9, f_s, hS, hZ⟩ := hI9
        obtain ⟨hk9, hV⟩ : k ≤ 30 ∧ r_pow k pv = r_pow ((r_count1 set).toNatClampNeg) 1 := hI9
        have hl : lv_has ls 7 [(0, .ref (M 0)), (1, .int law), (2, .int set), (3, .int part), (4, .long pv), (6, .int (nI k))] := hl
        obtain rfl | ⟨k, rfl⟩ : k = 0 ∨ ∃ m, k = m + 1 := by cases k with | zero => exact .inl rfl | succ n => exact .inr ⟨n, rfl⟩
        · have hV : pv = r_pow ((r_count1 set).toNatClampNeg) 1 := hV
          subst hV
          have hl : lv_has ls 7 [(0, .ref (M 0)), (1, .int law), (2, .int set), (3, .int part), (4, .long (r_pow ((r_count1 set).toNatClampNeg) 1)), (6, .int 0)] := hl
          refine lv_iload hx hb dX6_odds_38 (lv_at hl 5 rfl) ?_
          refine lv_if_le (tgt := 57) hx hb dX6_odds_40 (by decide) (fun h_p => ?_) (fun h_p => ?_)
          · refine lv_aload_n hx hb dX6_odds_57 rfl (lv_at hl 0 rfl) ?_
            refine lv_iload_n hx hb dX6_odds_58 rfl (lv_at hl 1 rfl) ?_
            refine lv_iload_n hx hb dX6_odds_59 rfl (lv_at hl 2 rfl) ?_
            refine wr_call (va_runV (As := [.int law, .int set]) (rest := []) hC (c_X6_oddsOf l G M x law set hI hO hMW hN (ib.weak (isLaw_ib hI h_1) (by decide) (by decide)) (isLaw_wf hI hMW h_1)) (cwV 2 hts gX6_odds_X6_oddsOf rfl rfl rfl kd_X6_oddsOf ⟨Nat.le_of_ble_eq_true rfl, Nat.le_of_ble_eq_true rfl⟩) (ro_preV hK f_s.1 rfl f_s) rfl rfl hl.1 rfl (lv_room (Nat.le_of_ble_eq_true rfl)) dX6_odds_60 ⟨Nat.zero_le _, Nat.zero_le _⟩) hS (fun q h => h) (fun H locs f_n hq hS => ?_)
            have f_s := f_n
            refine lv_lload hx hb dX6_odds_63 (lv_at hl 4 rfl) ?_
            refine lv_iload_n hx hb dX6_odds_65 rfl (lv_at hl 3 rfl) ?_
            refine ro_call (va_runS (As := [.long (r_oddsOf x law set), .long (r_pow ((r_count1 set).toNatClampNeg) 1), .int part]) (rest := []) hC (c_X6_lowest l G (r_oddsOf x law set) (r_pow ((r_count1 set).toNatClampNeg) 1) part (r_pow_ne (r_few_le h_2))) (va_cwS 3 hts gX6_odds_X6_lowest rfl rfl rfl kd_X6_lowest ⟨Nat.le_of_ble_eq_true rfl, Nat.le_of_ble_eq_true rfl⟩) (ro_preS hK trivial) rfl rfl hl.1 rfl (lv_room (Nat.le_of_ble_eq_true rfl)) dX6_odds_66 ⟨Nat.zero_le _, Nat.zero_le _⟩) ?_
            have hE9 : r_odds x law set part = r_lowest (r_oddsOf x law set) (r_pow ((r_count1 set).toNatClampNeg) 1) part := (by (try unfold r_odds); (repeat rw [if_pos h_1]); (repeat rw [if_pos h_2]); (repeat rw [if_pos h_3]); first | done | rfl)
            exact wr_lret hx hb hr hlocks dX6_odds_69 hS (by first | exact f_s | (rw [hE9]; exact f_s)) (by rw [hE9]; first | done | rfl)
          · exact absurd (by decide) h_p
        · refine lv_iload hx hb dX6_odds_38 (lv_at hl 5 rfl) ?_
          refine lv_if_le (tgt := 57) hx hb dX6_odds_40 (by decide) (fun h_p => ?_) (fun h_p => ?_)
          · exact absurd h_p (nI_gt0 (by omega))
          · refine lv_lload hx hb dX6_odds_43 (lv_at hl 4 rfl) ?_
            refine lv_ldc2 (v := 200) hx hb hown (hts _ k_X6_odds_constantLong_184) dX6_odds_45 ?_
            refine lv_lmul hx hb dX6_odds_48 ?_
            refine lv_lstore (lv' := [(4, .long (pv * 200)), (0, .ref (M 0)), (1, .int law), (2, .int set), (3, .int part), (6, .int (nI (k + 1)))]) hx hb dX6_odds_49 hl (by decide) rfl (fun ls hl => ?_)
            refine lv_iinc (v := (nI (k + 1)) + (-1)) (lv' := [(6, .int ((nI (k + 1)) + (-1))), (4, .long (pv * 200)), (0, .ref (M 0)), (1, .int law), (2, .int set), (3, .int part)]) hx hb dX6_odds_51 hl (k := 5) rfl rfl (by decide) rfl (fun ls hl => ?_)
            refine lv_goto (tgt := 38) hx hb dX6_odds_54 (by decide) ?_
            refine ih (k, pv * 200) _ _ ⟨⟨(by omega), hV⟩, f_s, hS, hZ⟩ (show k < k + 1 by omega) ls ?_
            show lv_has ls 7 [(0, .ref (M 0)), (1, .int law), (2, .int set), (3, .int part), (4, .long (pv * 200)), (6, .int (nI k))]
            rw [show nI k = nI (k + 1) + (-1) from (nI_m1 (k + 1) (by omega)).symm]
            exact lv_sub hl [2, 3, 4, 5, 1, 0] rfl
      · refine lv_ldc2 (v := (-9223372036854775808)) hx hb hown (hts _ k_X6_odds_constantLong_178) dX6_odds_25 ?_
        have hE9 : r_odds x law set part = (-9223372036854775808) := (by (try unfold r_odds); (repeat rw [if_pos h_1]); (repeat rw [if_pos h_2]); (repeat rw [if_neg h_3]); first | done | rfl)
        exact wr_lret hx hb hr hlocks dX6_odds_28 hS (by first | exact f_s | (rw [hE9]; exact f_s)) (by rw [hE9]; first | done | rfl)

/-! the walk of the law: what holds at its loop's head; one of the script's words at a time -/
abbrev lwL (b n0 a : Nat) : List (Nat × Value) := [(0, .ref b), (1, .ref n0), (2, .ref (n0 + 103)), (3, .int (nI (8 * a)))]
def lwB (x : Int32) : Bool := if x = 0 then false else true
def lwW (x y : Int32) : Int64 := (x.toInt64 <<< ((32 : Int32).toInt64 &&& 63)) ||| (y.toInt64 &&& 4294967295)
def LH (b L : Nat) (xs : Nat → Int32) (s : State) (Z : AM) (n0 : Nat) (H : Heap) (locs : List Loc) : Prop := va_X b L xs s H ∧ amK Z s H ∧ ∀ q ∈ locs, n0 ≤ q.base
def LI (b L : Nat) (xs : Nat → Int32) (s : State) (G : GG) (Z : AM) (n0 : Nat) (H : Heap) (locs : List Loc) : Prop := LH b L xs s Z n0 H locs ∧ ∃ (wd wt : WT) (tk : Bool) (rn : Nat) (bo : Nat → Int32) (x : MT), C5 G n0 wd wt tk rn bo H ∧ MAt G (M6 n0) x H ∧ Inv9 wd wt tk rn bo x
def lawC (p : Program) (s : State) (m : MethodId) (c : Code) (b L n0 : Nat) (G : GG) (Z : AM) (cells slots : Nat) : Prop := CallFix p m c cL_law 4 s #[Value.ref b] wsL_law RL ∧ (∀ w ∈ lw_tbl, w.before #[Value.ref b] s = true) ∧ b < n0 ∧ gK G s ∧ (∀ q : Nat, n0 ≤ q → Z.1 q) ∧ L ≤ 512 ∧ cells ≤ 600000 ∧ slots ≤ 7302250
section LAW
variable {p : Program} {l : Launch} {e : Env} {s : State} {m : MethodId} {below : List Frame} {meth : Method} {c : Code} {H : Heap} {locs : List Loc} {cells slots : Nat} {Q : State → Prop}
variable {cc : ByteArray} {pc : Nat} {ls : Array Slot} {rest st0 : List Value} {a9 args : Array Value} {b L n0 : Nat} {xs : Nat → Int32} {G : GG} {Z : AM}
theorem L_ld (hexec : p.tables.exec = Jvm.exec) (hb : c.code = cc) (hX : va_X b L xs s H) {i : Int32} (hin : vp_in i L) (hdg : decode cc pc = .ok (.iaload, 1)) (kk : W p l e room_1 s m args below meth c H locs cells slots Q (F0 m (pc + 1) ls (.int (xs i.toNatClampNeg) :: rest))) : W p l e room_1 s m args below meth c H locs cells slots Q (F0 m pc ls (.int i :: .ref b :: rest)) := by
  obtain ⟨scr, h1, h2, h3, h4, h5⟩ := hX
  have hlt : i.toNatClampNeg < L := Nat.not_le.mp fun q => hin (Or.inr q)
  exact W.iald (v := .int (xs i.toNatClampNeg)) hexec hb h1 h2 h3 (by rw [h4]; exact hin) (h5 _ hlt) rfl rfl hdg kk
theorem L_len (hexec : p.tables.exec = Jvm.exec) (hb : c.code = cc) (hX : va_X b L xs s H) (hdg : decode cc pc = .ok (.arraylength, 1)) (kk : W p l e room_1 s m args below meth c H locs cells slots Q (F0 m (pc + 1) ls (.int (Int32.ofNat L) :: rest))) : W p l e room_1 s m args below meth c H locs cells slots Q (F0 m pc ls (.ref b :: rest)) := by
  obtain ⟨scr, h1, h2, h3, h4, h5⟩ := hX
  exact W.alen (n := Int32.ofNat L) hexec hb h1 h2 (by rw [h4] <;> rfl) rfl rfl hdg kk
theorem L_add {a i : Nat} (hi : 8 * a + i < L) (hL : L ≤ 512) : (nI (8 * a) + nI i).toNatClampNeg = 8 * a + i := by rw [nI_add]; exact nI_clamp (by omega)
theorem L_in {a i : Nat} (hi : 8 * a + i < L) (hL : L ≤ 512) : vp_in (nI (8 * a) + nI i) L := by rw [nI_add]; exact vp_in_nI hi (by omega)
theorem L_rd (hx : p.tables.exec = Jvm.exec) (hb : c.code = cc) (hX : va_X b L xs s H) {a : Nat} (hl : lv_has ls 4 (lwL b n0 a)) {i : Nat} {n : Int} (hi : 8 * a + i < L) (hL : L ≤ 512) (d0 : decode cc pc = .ok (.aload_n 0, 1)) (d1 : decode cc (pc + 1) = .ok (.iload_n 3, 1)) (d2 : decode cc (pc + 2) = .ok (.iconst n, 1)) (hn : Int32.ofInt n = nI i) (d3 : decode cc (pc + 3) = .ok (.iadd, 1)) (d4 : decode cc (pc + 4) = .ok (.iaload, 1)) (k : W p l e room_1 s m args below meth c H locs cells slots Q (F0 m (pc + 5) ls (.int (xs (8 * a + i)) :: rest))) : W p l e room_1 s m args below meth c H locs cells slots Q (F0 m pc ls rest) := by
  refine lv_aload_n hx hb d0 rfl (lv_at hl 0 rfl) ?_
  refine lv_iload_n hx hb d1 rfl (lv_at hl 3 rfl) ?_
  refine lv_iconst hx hb d2 hn ?_
  refine lv_iadd hx hb d3 ?_
  refine L_ld hx hb hX (L_in hi hL) d4 ?_
  rw [L_add hi hL]
  exact k
theorem L_rb (hx : p.tables.exec = Jvm.exec) (hb : c.code = cc) (hX : va_X b L xs s H) {a : Nat} (hl : lv_has ls 4 (lwL b n0 a)) {i : Nat} {n : Int} (hi : 8 * a + i < L) (hL : L ≤ 512) (d0 : decode cc pc = .ok (.aload_n 0, 1)) (d1 : decode cc (pc + 1) = .ok (.iload_n 3, 1)) (d2 : decode cc (pc + 2) = .ok (.bipush n, 2)) (hn : (Int8.ofInt n).toInt32 = nI i) (d3 : decode cc (pc + 4) = .ok (.iadd, 1)) (d4 : decode cc (pc + 5) = .ok (.iaload, 1)) (k : W p l e room_1 s m args below meth c H locs cells slots Q (F0 m (pc + 6) ls (.int (xs (8 * a + i)) :: rest))) : W p l e room_1 s m args below meth c H locs cells slots Q (F0 m pc ls rest) := by
  refine lv_aload_n hx hb d0 rfl (lv_at hl 0 rfl) ?_
  refine lv_iload_n hx hb d1 rfl (lv_at hl 3 rfl) ?_
  refine lv_bipush hx hb d2 hn ?_
  refine lv_iadd hx hb d3 ?_
  refine L_ld hx hb hX (L_in hi hL) d4 ?_
  rw [L_add hi hL]
  exact k
theorem L_bz (hx : p.tables.exec = Jvm.exec) (hb : c.code = cc) {x : Int32} (d0 : decode cc pc = .ok (.ifCond .eq 7, 3)) (d1 : decode cc (pc + 3) = .ok (.iconst 1, 1)) (d2 : decode cc (pc + 4) = .ok (.goto 4, 3)) (d3 : decode cc (pc + 7) = .ok (.iconst 0, 1)) (k : W p l e room_1 s m args below meth c H locs cells slots Q (F0 m (pc + 8) ls (.int (b2i (lwB x)) :: rest))) : W p l e room_1 s m args below meth c H locs cells slots Q (F0 m pc ls (.int x :: rest)) := by
  unfold lwB at k
  refine lv_if_eq (tgt := pc + 7) hx hb d0 (by omega) (fun h => ?_) (fun h => ?_)
  · rw [if_pos h] at k
    exact lv_iconst (v := 0) hx hb d3 (by decide) k
  · rw [if_neg h] at k
    refine lv_iconst (v := 1) hx hb d1 (by decide) ?_
    exact lv_goto (tgt := pc + 8) hx hb d2 (by omega) k
theorem L_if_eq {x y : Int32} (h : x = y) (hx : p.tables.exec = Jvm.exec) (hb : c.code = cc) {off : Int} {tgt : Nat} (hdg : decode cc pc = .ok (.if_icmp .eq off, 3)) (ht : (pc : Int) + off = (tgt : Int)) (k : W p l e room_1 s m args below meth c H locs cells slots Q (F0 m tgt ls rest)) : W p l e room_1 s m args below meth c H locs cells slots Q (F0 m pc ls (.int y :: .int x :: rest)) := lv_icmp_eq hx hb hdg ht (fun _ => k) (fun q => absurd h q)
theorem L_leq {x : Int64} (hx : p.tables.exec = Jvm.exec) (hb : c.code = cc) {off : Int} {tgt : Nat} (d0 : decode cc pc = .ok (.lcmp, 1)) (hdg : decode cc (pc + 1) = .ok (.ifCond .eq off, 3)) (ht : ((pc + 1 : Nat) : Int) + off = (tgt : Int)) (k : W p l e room_1 s m args below meth c H locs cells slots Q (F0 m tgt ls rest)) : W p l e room_1 s m args below meth c H locs cells slots Q (F0 m pc ls (.long x :: .long x :: rest)) := by
  refine W.lcmp hx hb d0 ?_
  have e1 : lg_cmp x x = 0 := by simp [lg_cmp]
  exact lv_if_eq hx hb hdg ht (fun _ => k) (fun q => absurd e1 q)
theorem r5 {wd wt wd2 wt2 : WT} {tk tk2 : Bool} {rn rn2 : Nat} {bo bo2 : Nat → Int32} {x : MT} {v : Value} (hbn : b < n0) (hAZ : ∀ q : Nat, n0 ≤ q → Z.1 q) (hL : LH b L xs s Z n0 H locs) (hM : MAt G (M6 n0) x H) (hr : va_Run p l e room_1 s m args below meth c H locs cells slots 0 0 (F0 m pc ls st0) rest (wrQ (some v) (C5 G n0 wd2 wt2 tk2 rn2 bo2) (c5A n0) a9) (c5A n0)) (k : ∀ (H1 : Heap) (locs1 : List Loc), LH b L xs s Z n0 H1 locs1 → C5 G n0 wd2 wt2 tk2 rn2 bo2 H1 → MAt G (M6 n0) x H1 → W p l e room_1 s m args below meth c H1 locs1 cells slots Q (F0 m (pc + 3) ls (v :: rest))) : W p l e room_1 s m args below meth c H locs cells slots Q (F0 m pc ls st0) := by
  refine wr_call (A := fun q => n0 ≤ q) (H0 := H) hr ⟨rfl, fun _ _ => rfl, hL.2.2⟩ (fun q h => (c5A_in h).1) (fun H1 locs1 hB hq hS => k H1 locs1 ⟨hL.1.kept (hq b (fun z => by have := (c5A_in z).1; omega)), hL.2.1.kept (fun a ha => hq a (fun z => ha (hAZ a (c5A_in z).1))), hS.2.2⟩ hB (hM.kept (fun j hj => hq _ (fun z => ?_))))
  have := (c5A_in z).2
  have q : M6 n0 j = n0 + 103 + j := rfl
  omega
theorem r6 {wd wt : WT} {tk : Bool} {rn : Nat} {bo : Nat → Int32} {E : MT → Prop} {v : Value} (hbn : b < n0) (hAZ : ∀ q : Nat, n0 ≤ q → Z.1 q) (hL : LH b L xs s Z n0 H locs) (hM : C5 G n0 wd wt tk rn bo H) (hr : va_Run p l e room_1 s m args below meth c H locs cells slots 0 0 (F0 m pc ls st0) rest (wrQ (some v) (fun H => ∃ y, MAt G (M6 n0) y H ∧ E y) (m6A n0) a9) (m6A n0)) (k : ∀ (H1 : Heap) (locs1 : List Loc) (y : MT), LH b L xs s Z n0 H1 locs1 → C5 G n0 wd wt tk rn bo H1 → MAt G (M6 n0) y H1 → E y → W p l e room_1 s m args below meth c H1 locs1 cells slots Q (F0 m (pc + 3) ls (v :: rest))) : W p l e room_1 s m args below meth c H locs cells slots Q (F0 m pc ls st0) := by
  refine wr_call (A := fun q => n0 ≤ q) (H0 := H) hr ⟨rfl, fun _ _ => rfl, hL.2.2⟩ (fun q h => by have := (m6A_in h).1; omega) (fun H1 locs1 hB hq hS => ?_)
  obtain ⟨y, h1, h2⟩ := hB
  exact k H1 locs1 y ⟨hL.1.kept (hq b (fun z => by have := (m6A_in z).1; omega)), hL.2.1.kept (fun a ha => hq a (fun z => ha (hAZ a (by have := (m6A_in z).1; omega)))), hS.2.2⟩ (hM.kept (fun q h1 h2 => hq q (fun z => by have := (m6A_in z).1; omega))) h1 h2
/-- the head of the loop -/
theorem L_head (hx : p.tables.exec = Jvm.exec) (hb : c.code = cL_law) (hX : va_X b L xs s H) (hL : L ≤ 512) {a : Nat} (ha : a ≤ 64) (hl : lv_has ls 4 (lwL b n0 a)) (kt : W p l e room_1 s m args below meth c H locs cells slots Q (F0 m 1310 ls [])) (kf : 8 * a + 8 ≤ L → W p l e room_1 s m args below meth c H locs cells slots Q (F0 m 27 ls [])) : W p l e room_1 s m args below meth c H locs cells slots Q (F0 m 18 ls []) := by
  refine lv_iload_n hx hb dL_law_18 rfl (lv_at hl 3 rfl) ?_
  refine lv_aload_n hx hb dL_law_19 rfl (lv_at hl 0 rfl) ?_
  refine L_len hx hb hX dL_law_20 ?_
  refine lv_bipush (v := 8) hx hb dL_law_21 (by decide +kernel) ?_
  refine lv_isub hx hb dL_law_23 ?_
  refine lv_icmp_gt (tgt := 1310) hx hb dL_law_24 (by decide) (fun _ => kt) (fun h => kf ?_)
  have i1 : ib L L (Int32.ofNat L) := ib_nI (n := L) (by omega)
  have i2 : ib 8 8 (8 : Int32) := ⟨by decide, by decide⟩
  have i3 := ib_sub i1 i2 (by omega) (by omega)
  have i4 := ib_nI (n := 8 * a) (by omega)
  rcases Nat.lt_or_ge L (8 * a + 8) with q | q
  · refine absurd ?_ h
    rw [Int32.lt_iff_toInt_lt]
    have := i3.2
    have := i4.1
    omega
  · exact q

theorem kd_X5_child : yX5_child.cls = RX5 ∧ yX5_child.cls ≠ "java/lang/invoke/MethodHandle" ∧ yX5_child.cls ≠ "java/lang/invoke/VarHandle" ∧ (parseMethodDescriptor yX5_child.desc).map (fun d => d.parameters.length) = some 1 := by decide +kernel
theorem kd_X6_child : yX6_child.cls = RX6 ∧ yX6_child.cls ≠ "java/lang/invoke/MethodHandle" ∧ yX6_child.cls ≠ "java/lang/invoke/VarHandle" ∧ (parseMethodDescriptor yX6_child.desc).map (fun d => d.parameters.length) = some 1 := by decide +kernel
set_option maxHeartbeats 1000000 in
theorem k_child (hC : lawC p s m c b L n0 G Z cells slots) {a : Nat} (ha : 8 * a + 8 ≤ L) (hl : lv_has ls 4 (lwL b n0 a)) (hI : LI b L xs s G Z n0 H locs) (kk : ∀ (H : Heap) (locs : List Loc), LI b L xs s G Z n0 H locs → W p l e room_1 s m #[Value.ref b] below meth c H locs cells slots Q (F0 m 1304 ls [])) : W p l e room_1 s m #[Value.ref b] below meth c H locs cells slots Q (F0 m 180 ls []) := by
  obtain ⟨hS, hT, hbn, hK, hAZ, hL5, hce, hsl⟩ := hC
  have hx := hS.1
  have hb := hS.2.1
  have hown := hS.2.2.2.1
  have hts := hS.2.2.2.2
  obtain ⟨hH, wd, wt, tk, rn, bo, x, hc5, hm6, hI9⟩ := hI
  obtain ⟨v, wd2, wt2, tk2, rn2, bo2, h5, h6⟩ := p_child l G Z n0 hAZ hI9 (xs (8 * a + 1))
  refine lv_aload_n hx hb dL_law_180 rfl (lv_at hl 1 rfl) ?_
  refine L_rd hx hb hH.1 hl (i := 1) (by omega) hL5 dL_law_181 dL_law_182 dL_law_183 (by decide +kernel) dL_law_184 dL_law_185 ?_
  refine r5 (wd := wd) (wt := wt) (tk := tk) (rn := rn) (bo := bo) hbn hAZ hH hm6 (va_runV (As := [.int (xs (8 * a + 1))]) (rest := []) hS h5 (cwV 1 hts gL_law_X5_child rfl rfl rfl kd_X5_child ⟨Nat.le_of_ble_eq_true rfl, Nat.le_of_ble_eq_true rfl⟩) (a_preV hK hH.2.1 hc5.1 rfl hc5) rfl rfl hl.1 rfl (lv_room (Nat.le_of_ble_eq_true rfl)) dL_law_186 ⟨hce, hsl⟩) (fun H locs hH hc5 hm6 => ?_)
  refine lv_aload_n hx hb dL_law_189 rfl (lv_at hl 2 rfl) ?_
  refine L_rd hx hb hH.1 hl (i := 1) (by omega) hL5 dL_law_190 dL_law_191 dL_law_192 (by decide +kernel) dL_law_193 dL_law_194 ?_
  refine r6 hbn hAZ hH hc5 (va_runV (As := [.int (xs (8 * a + 1))]) (rest := [.int v]) hS h6 (cwV 1 hts gL_law_X6_child rfl rfl rfl kd_X6_child ⟨Nat.le_of_ble_eq_true rfl, Nat.le_of_ble_eq_true rfl⟩) (a_preV hK hH.2.1 hm6.1 rfl hm6) rfl rfl hl.1 rfl (lv_room (Nat.le_of_ble_eq_true rfl)) dL_law_195 ⟨hce, hsl⟩) (fun H locs y hH hc5 hm6 hI2 => ?_)
  exact L_if_eq rfl hx hb dL_law_198 (by decide) (kk H locs ⟨hH, wd2, wt2, tk2, rn2, bo2, y, hc5, hm6, hI2⟩)
theorem kd_X5_age : yX5_age.cls = RX5 ∧ yX5_age.cls ≠ "java/lang/invoke/MethodHandle" ∧ yX5_age.cls ≠ "java/lang/invoke/VarHandle" ∧ (parseMethodDescriptor yX5_age.desc).map (fun d => d.parameters.length) = some 1 := by decide +kernel
theorem kd_X6_age : yX6_age.cls = RX6 ∧ yX6_age.cls ≠ "java/lang/invoke/MethodHandle" ∧ yX6_age.cls ≠ "java/lang/invoke/VarHandle" ∧ (parseMethodDescriptor yX6_age.desc).map (fun d => d.parameters.length) = some 1 := by decide +kernel
set_option maxHeartbeats 1000000 in
theorem k_age (hC : lawC p s m c b L n0 G Z cells slots) {a : Nat} (ha : 8 * a + 8 ≤ L) (hl : lv_has ls 4 (lwL b n0 a)) (hI : LI b L xs s G Z n0 H locs) (kk : ∀ (H : Heap) (locs : List Loc), LI b L xs s G Z n0 H locs → W p l e room_1 s m #[Value.ref b] below meth c H locs cells slots Q (F0 m 1304 ls [])) : W p l e room_1 s m #[Value.ref b] below meth c H locs cells slots Q (F0 m 203 ls []) := by
  obtain ⟨hS, hT, hbn, hK, hAZ, hL5, hce, hsl⟩ := hC
  have hx := hS.1
  have hb := hS.2.1
  have hown := hS.2.2.2.1
  have hts := hS.2.2.2.2
  obtain ⟨hH, wd, wt, tk, rn, bo, x, hc5, hm6, hI9⟩ := hI
  obtain ⟨v, wd2, wt2, tk2, rn2, bo2, h5, h6⟩ := p_age l G Z n0 hAZ hI9 (xs (8 * a + 1))
  refine lv_aload_n hx hb dL_law_203 rfl (lv_at hl 1 rfl) ?_
  refine L_rd hx hb hH.1 hl (i := 1) (by omega) hL5 dL_law_204 dL_law_205 dL_law_206 (by decide +kernel) dL_law_207 dL_law_208 ?_
  refine r5 (wd := wd) (wt := wt) (tk := tk) (rn := rn) (bo := bo) hbn hAZ hH hm6 (va_runV (As := [.int (xs (8 * a + 1))]) (rest := []) hS h5 (cwV 1 hts gL_law_X5_age rfl rfl rfl kd_X5_age ⟨Nat.le_of_ble_eq_true rfl, Nat.le_of_ble_eq_true rfl⟩) (a_preV hK hH.2.1 hc5.1 rfl hc5) rfl rfl hl.1 rfl (lv_room (Nat.le_of_ble_eq_true rfl)) dL_law_209 ⟨hce, hsl⟩) (fun H locs hH hc5 hm6 => ?_)
  refine lv_aload_n hx hb dL_law_212 rfl (lv_at hl 2 rfl) ?_
  refine L_rd hx hb hH.1 hl (i := 1) (by omega) hL5 dL_law_213 dL_law_214 dL_law_215 (by decide +kernel) dL_law_216 dL_law_217 ?_
  refine r6 hbn hAZ hH hc5 (va_runV (As := [.int (xs (8 * a + 1))]) (rest := [.int v]) hS h6 (cwV 1 hts gL_law_X6_age rfl rfl rfl kd_X6_age ⟨Nat.le_of_ble_eq_true rfl, Nat.le_of_ble_eq_true rfl⟩) (a_preV hK hH.2.1 hm6.1 rfl hm6) rfl rfl hl.1 rfl (lv_room (Nat.le_of_ble_eq_true rfl)) dL_law_218 ⟨hce, hsl⟩) (fun H locs y hH hc5 hm6 hI2 => ?_)
  exact L_if_eq rfl hx hb dL_law_221 (by decide) (kk H locs ⟨hH, wd2, wt2, tk2, rn2, bo2, y, hc5, hm6, hI2⟩)
theorem kd_X5_grow : yX5_grow.cls = RX5 ∧ yX5_grow.cls ≠ "java/lang/invoke/MethodHandle" ∧ yX5_grow.cls ≠ "java/lang/invoke/VarHandle" ∧ (parseMethodDescriptor yX5_grow.desc).map (fun d => d.parameters.length) = some 1 := by decide +kernel
theorem kd_X6_grow : yX6_grow.cls = RX6 ∧ yX6_grow.cls ≠ "java/lang/invoke/MethodHandle" ∧ yX6_grow.cls ≠ "java/lang/invoke/VarHandle" ∧ (parseMethodDescriptor yX6_grow.desc).map (fun d => d.parameters.length) = some 1 := by decide +kernel
set_option maxHeartbeats 1000000 in
theorem k_grow (hC : lawC p s m c b L n0 G Z cells slots) {a : Nat} (ha : 8 * a + 8 ≤ L) (hl : lv_has ls 4 (lwL b n0 a)) (hI : LI b L xs s G Z n0 H locs) (kk : ∀ (H : Heap) (locs : List Loc), LI b L xs s G Z n0 H locs → W p l e room_1 s m #[Value.ref b] below meth c H locs cells slots Q (F0 m 1304 ls [])) : W p l e room_1 s m #[Value.ref b] below meth c H locs cells slots Q (F0 m 226 ls []) := by
  obtain ⟨hS, hT, hbn, hK, hAZ, hL5, hce, hsl⟩ := hC
  have hx := hS.1
  have hb := hS.2.1
  have hown := hS.2.2.2.1
  have hts := hS.2.2.2.2
  obtain ⟨hH, wd, wt, tk, rn, bo, x, hc5, hm6, hI9⟩ := hI
  obtain ⟨v, wd2, wt2, tk2, rn2, bo2, h5, h6⟩ := p_grow l G Z n0 hAZ hI9 (xs (8 * a + 1))
  refine lv_aload_n hx hb dL_law_226 rfl (lv_at hl 1 rfl) ?_
  refine L_rd hx hb hH.1 hl (i := 1) (by omega) hL5 dL_law_227 dL_law_228 dL_law_229 (by decide +kernel) dL_law_230 dL_law_231 ?_
  refine r5 (wd := wd) (wt := wt) (tk := tk) (rn := rn) (bo := bo) hbn hAZ hH hm6 (va_runV (As := [.int (xs (8 * a + 1))]) (rest := []) hS h5 (cwV 1 hts gL_law_X5_grow rfl rfl rfl kd_X5_grow ⟨Nat.le_of_ble_eq_true rfl, Nat.le_of_ble_eq_true rfl⟩) (a_preV hK hH.2.1 hc5.1 rfl hc5) rfl rfl hl.1 rfl (lv_room (Nat.le_of_ble_eq_true rfl)) dL_law_232 ⟨hce, hsl⟩) (fun H locs hH hc5 hm6 => ?_)
  refine lv_aload_n hx hb dL_law_235 rfl (lv_at hl 2 rfl) ?_
  refine L_rd hx hb hH.1 hl (i := 1) (by omega) hL5 dL_law_236 dL_law_237 dL_law_238 (by decide +kernel) dL_law_239 dL_law_240 ?_
  refine r6 hbn hAZ hH hc5 (va_runV (As := [.int (xs (8 * a + 1))]) (rest := [.int v]) hS h6 (cwV 1 hts gL_law_X6_grow rfl rfl rfl kd_X6_grow ⟨Nat.le_of_ble_eq_true rfl, Nat.le_of_ble_eq_true rfl⟩) (a_preV hK hH.2.1 hm6.1 rfl hm6) rfl rfl hl.1 rfl (lv_room (Nat.le_of_ble_eq_true rfl)) dL_law_241 ⟨hce, hsl⟩) (fun H locs y hH hc5 hm6 hI2 => ?_)
  exact L_if_eq rfl hx hb dL_law_244 (by decide) (kk H locs ⟨hH, wd2, wt2, tk2, rn2, bo2, y, hc5, hm6, hI2⟩)
theorem kd_X5_asking : yX5_asking.cls = RX5 ∧ yX5_asking.cls ≠ "java/lang/invoke/MethodHandle" ∧ yX5_asking.cls ≠ "java/lang/invoke/VarHandle" ∧ (parseMethodDescriptor yX5_asking.desc).map (fun d => d.parameters.length) = some 7 := by decide +kernel
theorem kd_X6_asking : yX6_asking.cls = RX6 ∧ yX6_asking.cls ≠ "java/lang/invoke/MethodHandle" ∧ yX6_asking.cls ≠ "java/lang/invoke/VarHandle" ∧ (parseMethodDescriptor yX6_asking.desc).map (fun d => d.parameters.length) = some 7 := by decide +kernel
set_option maxHeartbeats 1000000 in
theorem k_asking (hC : lawC p s m c b L n0 G Z cells slots) {a : Nat} (ha : 8 * a + 8 ≤ L) (hl : lv_has ls 4 (lwL b n0 a)) (hI : LI b L xs s G Z n0 H locs) (kk : ∀ (H : Heap) (locs : List Loc), LI b L xs s G Z n0 H locs → W p l e room_1 s m #[Value.ref b] below meth c H locs cells slots Q (F0 m 1304 ls [])) : W p l e room_1 s m #[Value.ref b] below meth c H locs cells slots Q (F0 m 249 ls []) := by
  obtain ⟨hS, hT, hbn, hK, hAZ, hL5, hce, hsl⟩ := hC
  have hx := hS.1
  have hb := hS.2.1
  have hown := hS.2.2.2.1
  have hts := hS.2.2.2.2
  obtain ⟨hH, wd, wt, tk, rn, bo, x, hc5, hm6, hI9⟩ := hI
  obtain ⟨v, wd2, wt2, tk2, rn2, bo2, h5, h6⟩ := p_asking l G Z n0 hAZ hI9 (xs (8 * a + 1)) (xs (8 * a + 2)) (xs (8 * a + 3)) (lwB (xs (8 * a + 4))) (xs (8 * a + 5)) (xs (8 * a + 6)) (xs (8 * a + 7))
  refine lv_aload_n hx hb dL_law_249 rfl (lv_at hl 1 rfl) ?_
  refine L_rd hx hb hH.1 hl (i := 1) (by omega) hL5 dL_law_250 dL_law_251 dL_law_252 (by decide +kernel) dL_law_253 dL_law_254 ?_
  refine L_rd hx hb hH.1 hl (i := 2) (by omega) hL5 dL_law_255 dL_law_256 dL_law_257 (by decide +kernel) dL_law_258 dL_law_259 ?_
  refine L_rd hx hb hH.1 hl (i := 3) (by omega) hL5 dL_law_260 dL_law_261 dL_law_262 (by decide +kernel) dL_law_263 dL_law_264 ?_
  refine L_rd hx hb hH.1 hl (i := 4) (by omega) hL5 dL_law_265 dL_law_266 dL_law_267 (by decide +kernel) dL_law_268 dL_law_269 ?_
  refine L_bz hx hb dL_law_270 dL_law_273 dL_law_274 dL_law_277 ?_
  refine L_rd hx hb hH.1 hl (i := 5) (by omega) hL5 dL_law_278 dL_law_279 dL_law_280 (by decide +kernel) dL_law_281 dL_law_282 ?_
  refine L_rb hx hb hH.1 hl (i := 6) (by omega) hL5 dL_law_283 dL_law_284 dL_law_285 (by decide +kernel) dL_law_287 dL_law_288 ?_
  refine L_rb hx hb hH.1 hl (i := 7) (by omega) hL5 dL_law_289 dL_law_290 dL_law_291 (by decide +kernel) dL_law_293 dL_law_294 ?_
  refine r5 (wd := wd) (wt := wt) (tk := tk) (rn := rn) (bo := bo) hbn hAZ hH hm6 (va_runV (As := [.int (xs (8 * a + 1)), .int (xs (8 * a + 2)), .int (xs (8 * a + 3)), .int (b2i (lwB (xs (8 * a + 4)))), .int (xs (8 * a + 5)), .int (xs (8 * a + 6)), .int (xs (8 * a + 7))]) (rest := []) hS h5 (cwV 7 hts gL_law_X5_asking rfl rfl rfl kd_X5_asking ⟨Nat.le_of_ble_eq_true rfl, Nat.le_of_ble_eq_true rfl⟩) (a_preV hK hH.2.1 hc5.1 rfl hc5) rfl rfl hl.1 rfl (lv_room (Nat.le_of_ble_eq_true rfl)) dL_law_295 ⟨hce, hsl⟩) (fun H locs hH hc5 hm6 => ?_)
  refine lv_aload_n hx hb dL_law_298 rfl (lv_at hl 2 rfl) ?_
  refine L_rd hx hb hH.1 hl (i := 1) (by omega) hL5 dL_law_299 dL_law_300 dL_law_301 (by decide +kernel) dL_law_302 dL_law_303 ?_
  refine L_rd hx hb hH.1 hl (i := 2) (by omega) hL5 dL_law_304 dL_law_305 dL_law_306 (by decide +kernel) dL_law_307 dL_law_308 ?_
  refine L_rd hx hb hH.1 hl (i := 3) (by omega) hL5 dL_law_309 dL_law_310 dL_law_311 (by decide +kernel) dL_law_312 dL_law_313 ?_
  refine L_rd hx hb hH.1 hl (i := 4) (by omega) hL5 dL_law_314 dL_law_315 dL_law_316 (by decide +kernel) dL_law_317 dL_law_318 ?_
  refine L_bz hx hb dL_law_319 dL_law_322 dL_law_323 dL_law_326 ?_
  refine L_rd hx hb hH.1 hl (i := 5) (by omega) hL5 dL_law_327 dL_law_328 dL_law_329 (by decide +kernel) dL_law_330 dL_law_331 ?_
  refine L_rb hx hb hH.1 hl (i := 6) (by omega) hL5 dL_law_332 dL_law_333 dL_law_334 (by decide +kernel) dL_law_336 dL_law_337 ?_
  refine L_rb hx hb hH.1 hl (i := 7) (by omega) hL5 dL_law_338 dL_law_339 dL_law_340 (by decide +kernel) dL_law_342 dL_law_343 ?_
  refine r6 hbn hAZ hH hc5 (va_runV (As := [.int (xs (8 * a + 1)), .int (xs (8 * a + 2)), .int (xs (8 * a + 3)), .int (b2i (lwB (xs (8 * a + 4)))), .int (xs (8 * a + 5)), .int (xs (8 * a + 6)), .int (xs (8 * a + 7))]) (rest := [.int v]) hS h6 (cwV 7 hts gL_law_X6_asking rfl rfl rfl kd_X6_asking ⟨Nat.le_of_ble_eq_true rfl, Nat.le_of_ble_eq_true rfl⟩) (a_preV hK hH.2.1 hm6.1 rfl hm6) rfl rfl hl.1 rfl (lv_room (Nat.le_of_ble_eq_true rfl)) dL_law_344 ⟨hce, hsl⟩) (fun H locs y hH hc5 hm6 hI2 => ?_)
  exact L_if_eq rfl hx hb dL_law_347 (by decide) (kk H locs ⟨hH, wd2, wt2, tk2, rn2, bo2, y, hc5, hm6, hI2⟩)
theorem kd_X5_of : yX5_of.cls = RX5 ∧ yX5_of.cls ≠ "java/lang/invoke/MethodHandle" ∧ yX5_of.cls ≠ "java/lang/invoke/VarHandle" ∧ (parseMethodDescriptor yX5_of.desc).map (fun d => d.parameters.length) = some 2 := by decide +kernel
theorem kd_X6_of : yX6_of.cls = RX6 ∧ yX6_of.cls ≠ "java/lang/invoke/MethodHandle" ∧ yX6_of.cls ≠ "java/lang/invoke/VarHandle" ∧ (parseMethodDescriptor yX6_of.desc).map (fun d => d.parameters.length) = some 2 := by decide +kernel
set_option maxHeartbeats 1000000 in
theorem k_of (hC : lawC p s m c b L n0 G Z cells slots) {a : Nat} (ha : 8 * a + 8 ≤ L) (hl : lv_has ls 4 (lwL b n0 a)) (hI : LI b L xs s G Z n0 H locs) (kk : ∀ (H : Heap) (locs : List Loc), LI b L xs s G Z n0 H locs → W p l e room_1 s m #[Value.ref b] below meth c H locs cells slots Q (F0 m 1304 ls [])) : W p l e room_1 s m #[Value.ref b] below meth c H locs cells slots Q (F0 m 352 ls []) := by
  obtain ⟨hS, hT, hbn, hK, hAZ, hL5, hce, hsl⟩ := hC
  have hx := hS.1
  have hb := hS.2.1
  have hown := hS.2.2.2.1
  have hts := hS.2.2.2.2
  obtain ⟨hH, wd, wt, tk, rn, bo, x, hc5, hm6, hI9⟩ := hI
  obtain ⟨v, wd2, wt2, tk2, rn2, bo2, h5, h6⟩ := p_of l G Z n0 hAZ hI9 (xs (8 * a + 1)) (xs (8 * a + 2))
  refine lv_aload_n hx hb dL_law_352 rfl (lv_at hl 1 rfl) ?_
  refine L_rd hx hb hH.1 hl (i := 1) (by omega) hL5 dL_law_353 dL_law_354 dL_law_355 (by decide +kernel) dL_law_356 dL_law_357 ?_
  refine L_rd hx hb hH.1 hl (i := 2) (by omega) hL5 dL_law_358 dL_law_359 dL_law_360 (by decide +kernel) dL_law_361 dL_law_362 ?_
  refine r5 (wd := wd) (wt := wt) (tk := tk) (rn := rn) (bo := bo) hbn hAZ hH hm6 (va_runV (As := [.int (xs (8 * a + 1)), .int (xs (8 * a + 2))]) (rest := []) hS h5 (cwV 2 hts gL_law_X5_of rfl rfl rfl kd_X5_of ⟨Nat.le_of_ble_eq_true rfl, Nat.le_of_ble_eq_true rfl⟩) (a_preV hK hH.2.1 hc5.1 rfl hc5) rfl rfl hl.1 rfl (lv_room (Nat.le_of_ble_eq_true rfl)) dL_law_363 ⟨hce, hsl⟩) (fun H locs hH hc5 hm6 => ?_)
  refine lv_aload_n hx hb dL_law_366 rfl (lv_at hl 2 rfl) ?_
  refine L_rd hx hb hH.1 hl (i := 1) (by omega) hL5 dL_law_367 dL_law_368 dL_law_369 (by decide +kernel) dL_law_370 dL_law_371 ?_
  refine L_rd hx hb hH.1 hl (i := 2) (by omega) hL5 dL_law_372 dL_law_373 dL_law_374 (by decide +kernel) dL_law_375 dL_law_376 ?_
  refine r6 hbn hAZ hH hc5 (va_runV (As := [.int (xs (8 * a + 1)), .int (xs (8 * a + 2))]) (rest := [.int v]) hS h6 (cwV 2 hts gL_law_X6_of rfl rfl rfl kd_X6_of ⟨Nat.le_of_ble_eq_true rfl, Nat.le_of_ble_eq_true rfl⟩) (a_preV hK hH.2.1 hm6.1 rfl hm6) rfl rfl hl.1 rfl (lv_room (Nat.le_of_ble_eq_true rfl)) dL_law_377 ⟨hce, hsl⟩) (fun H locs y hH hc5 hm6 hI2 => ?_)
  exact L_if_eq rfl hx hb dL_law_380 (by decide) (kk H locs ⟨hH, wd2, wt2, tk2, rn2, bo2, y, hc5, hm6, hI2⟩)
theorem kd_X5_answer : yX5_answer.cls = RX5 ∧ yX5_answer.cls ≠ "java/lang/invoke/MethodHandle" ∧ yX5_answer.cls ≠ "java/lang/invoke/VarHandle" ∧ (parseMethodDescriptor yX5_answer.desc).map (fun d => d.parameters.length) = some 4 := by decide +kernel
theorem kd_X6_answer : yX6_answer.cls = RX6 ∧ yX6_answer.cls ≠ "java/lang/invoke/MethodHandle" ∧ yX6_answer.cls ≠ "java/lang/invoke/VarHandle" ∧ (parseMethodDescriptor yX6_answer.desc).map (fun d => d.parameters.length) = some 4 := by decide +kernel
set_option maxHeartbeats 1000000 in
theorem k_answer (hC : lawC p s m c b L n0 G Z cells slots) {a : Nat} (ha : 8 * a + 8 ≤ L) (hl : lv_has ls 4 (lwL b n0 a)) (hI : LI b L xs s G Z n0 H locs) (kk : ∀ (H : Heap) (locs : List Loc), LI b L xs s G Z n0 H locs → W p l e room_1 s m #[Value.ref b] below meth c H locs cells slots Q (F0 m 1304 ls [])) : W p l e room_1 s m #[Value.ref b] below meth c H locs cells slots Q (F0 m 385 ls []) := by
  obtain ⟨hS, hT, hbn, hK, hAZ, hL5, hce, hsl⟩ := hC
  have hx := hS.1
  have hb := hS.2.1
  have hown := hS.2.2.2.1
  have hts := hS.2.2.2.2
  obtain ⟨hH, wd, wt, tk, rn, bo, x, hc5, hm6, hI9⟩ := hI
  obtain ⟨v, wd2, wt2, tk2, rn2, bo2, h5, h6⟩ := p_answer l G Z n0 hAZ hI9 (xs (8 * a + 1)) (xs (8 * a + 2)) (xs (8 * a + 3)) (lwB (xs (8 * a + 4)))
  refine lv_aload_n hx hb dL_law_385 rfl (lv_at hl 1 rfl) ?_
  refine L_rd hx hb hH.1 hl (i := 1) (by omega) hL5 dL_law_386 dL_law_387 dL_law_388 (by decide +kernel) dL_law_389 dL_law_390 ?_
  refine L_rd hx hb hH.1 hl (i := 2) (by omega) hL5 dL_law_391 dL_law_392 dL_law_393 (by decide +kernel) dL_law_394 dL_law_395 ?_
  refine L_rd hx hb hH.1 hl (i := 3) (by omega) hL5 dL_law_396 dL_law_397 dL_law_398 (by decide +kernel) dL_law_399 dL_law_400 ?_
  refine L_rd hx hb hH.1 hl (i := 4) (by omega) hL5 dL_law_401 dL_law_402 dL_law_403 (by decide +kernel) dL_law_404 dL_law_405 ?_
  refine L_bz hx hb dL_law_406 dL_law_409 dL_law_410 dL_law_413 ?_
  refine r5 (wd := wd) (wt := wt) (tk := tk) (rn := rn) (bo := bo) hbn hAZ hH hm6 (va_runV (As := [.int (xs (8 * a + 1)), .int (xs (8 * a + 2)), .int (xs (8 * a + 3)), .int (b2i (lwB (xs (8 * a + 4))))]) (rest := []) hS h5 (cwV 4 hts gL_law_X5_answer rfl rfl rfl kd_X5_answer ⟨Nat.le_of_ble_eq_true rfl, Nat.le_of_ble_eq_true rfl⟩) (a_preV hK hH.2.1 hc5.1 rfl hc5) rfl rfl hl.1 rfl (lv_room (Nat.le_of_ble_eq_true rfl)) dL_law_414 ⟨hce, hsl⟩) (fun H locs hH hc5 hm6 => ?_)
  refine lv_aload_n hx hb dL_law_417 rfl (lv_at hl 2 rfl) ?_
  refine L_rd hx hb hH.1 hl (i := 1) (by omega) hL5 dL_law_418 dL_law_419 dL_law_420 (by decide +kernel) dL_law_421 dL_law_422 ?_
  refine L_rd hx hb hH.1 hl (i := 2) (by omega) hL5 dL_law_423 dL_law_424 dL_law_425 (by decide +kernel) dL_law_426 dL_law_427 ?_
  refine L_rd hx hb hH.1 hl (i := 3) (by omega) hL5 dL_law_428 dL_law_429 dL_law_430 (by decide +kernel) dL_law_431 dL_law_432 ?_
  refine L_rd hx hb hH.1 hl (i := 4) (by omega) hL5 dL_law_433 dL_law_434 dL_law_435 (by decide +kernel) dL_law_436 dL_law_437 ?_
  refine L_bz hx hb dL_law_438 dL_law_441 dL_law_442 dL_law_445 ?_
  refine r6 hbn hAZ hH hc5 (va_runV (As := [.int (xs (8 * a + 1)), .int (xs (8 * a + 2)), .int (xs (8 * a + 3)), .int (b2i (lwB (xs (8 * a + 4))))]) (rest := [.int v]) hS h6 (cwV 4 hts gL_law_X6_answer rfl rfl rfl kd_X6_answer ⟨Nat.le_of_ble_eq_true rfl, Nat.le_of_ble_eq_true rfl⟩) (a_preV hK hH.2.1 hm6.1 rfl hm6) rfl rfl hl.1 rfl (lv_room (Nat.le_of_ble_eq_true rfl)) dL_law_446 ⟨hce, hsl⟩) (fun H locs y hH hc5 hm6 hI2 => ?_)
  exact L_if_eq rfl hx hb dL_law_449 (by decide) (kk H locs ⟨hH, wd2, wt2, tk2, rn2, bo2, y, hc5, hm6, hI2⟩)
theorem kd_X5_answered : yX5_answered.cls = RX5 ∧ yX5_answered.cls ≠ "java/lang/invoke/MethodHandle" ∧ yX5_answered.cls ≠ "java/lang/invoke/VarHandle" ∧ (parseMethodDescriptor yX5_answered.desc).map (fun d => d.parameters.length) = some 2 := by decide +kernel
theorem kd_X6_answered : yX6_answered.cls = RX6 ∧ yX6_answered.cls ≠ "java/lang/invoke/MethodHandle" ∧ yX6_answered.cls ≠ "java/lang/invoke/VarHandle" ∧ (parseMethodDescriptor yX6_answered.desc).map (fun d => d.parameters.length) = some 2 := by decide +kernel
set_option maxHeartbeats 1000000 in
theorem k_answered (hC : lawC p s m c b L n0 G Z cells slots) {a : Nat} (ha : 8 * a + 8 ≤ L) (hl : lv_has ls 4 (lwL b n0 a)) (hI : LI b L xs s G Z n0 H locs) (kk : ∀ (H : Heap) (locs : List Loc), LI b L xs s G Z n0 H locs → W p l e room_1 s m #[Value.ref b] below meth c H locs cells slots Q (F0 m 1304 ls [])) : W p l e room_1 s m #[Value.ref b] below meth c H locs cells slots Q (F0 m 454 ls []) := by
  obtain ⟨hS, hT, hbn, hK, hAZ, hL5, hce, hsl⟩ := hC
  have hx := hS.1
  have hb := hS.2.1
  have hown := hS.2.2.2.1
  have hts := hS.2.2.2.2
  obtain ⟨hH, wd, wt, tk, rn, bo, x, hc5, hm6, hI9⟩ := hI
  obtain ⟨v, wd2, wt2, tk2, rn2, bo2, h5, h6⟩ := p_answered l G Z n0 hAZ hI9 (xs (8 * a + 1)) (xs (8 * a + 2))
  refine lv_aload_n hx hb dL_law_454 rfl (lv_at hl 1 rfl) ?_
  refine L_rd hx hb hH.1 hl (i := 1) (by omega) hL5 dL_law_455 dL_law_456 dL_law_457 (by decide +kernel) dL_law_458 dL_law_459 ?_
  refine L_rd hx hb hH.1 hl (i := 2) (by omega) hL5 dL_law_460 dL_law_461 dL_law_462 (by decide +kernel) dL_law_463 dL_law_464 ?_
  refine r5 (wd := wd) (wt := wt) (tk := tk) (rn := rn) (bo := bo) hbn hAZ hH hm6 (va_runV (As := [.int (xs (8 * a + 1)), .int (xs (8 * a + 2))]) (rest := []) hS h5 (cwV 2 hts gL_law_X5_answered rfl rfl rfl kd_X5_answered ⟨Nat.le_of_ble_eq_true rfl, Nat.le_of_ble_eq_true rfl⟩) (a_preV hK hH.2.1 hc5.1 rfl hc5) rfl rfl hl.1 rfl (lv_room (Nat.le_of_ble_eq_true rfl)) dL_law_465 ⟨hce, hsl⟩) (fun H locs hH hc5 hm6 => ?_)
  refine lv_aload_n hx hb dL_law_468 rfl (lv_at hl 2 rfl) ?_
  refine L_rd hx hb hH.1 hl (i := 1) (by omega) hL5 dL_law_469 dL_law_470 dL_law_471 (by decide +kernel) dL_law_472 dL_law_473 ?_
  refine L_rd hx hb hH.1 hl (i := 2) (by omega) hL5 dL_law_474 dL_law_475 dL_law_476 (by decide +kernel) dL_law_477 dL_law_478 ?_
  refine r6 hbn hAZ hH hc5 (va_runV (As := [.int (xs (8 * a + 1)), .int (xs (8 * a + 2))]) (rest := [.int v]) hS h6 (cwV 2 hts gL_law_X6_answered rfl rfl rfl kd_X6_answered ⟨Nat.le_of_ble_eq_true rfl, Nat.le_of_ble_eq_true rfl⟩) (a_preV hK hH.2.1 hm6.1 rfl hm6) rfl rfl hl.1 rfl (lv_room (Nat.le_of_ble_eq_true rfl)) dL_law_479 ⟨hce, hsl⟩) (fun H locs y hH hc5 hm6 hI2 => ?_)
  exact L_if_eq rfl hx hb dL_law_482 (by decide) (kk H locs ⟨hH, wd2, wt2, tk2, rn2, bo2, y, hc5, hm6, hI2⟩)
theorem kd_X5_teach : yX5_teach.cls = RX5 ∧ yX5_teach.cls ≠ "java/lang/invoke/MethodHandle" ∧ yX5_teach.cls ≠ "java/lang/invoke/VarHandle" ∧ (parseMethodDescriptor yX5_teach.desc).map (fun d => d.parameters.length) = some 2 := by decide +kernel
theorem kd_X6_teach : yX6_teach.cls = RX6 ∧ yX6_teach.cls ≠ "java/lang/invoke/MethodHandle" ∧ yX6_teach.cls ≠ "java/lang/invoke/VarHandle" ∧ (parseMethodDescriptor yX6_teach.desc).map (fun d => d.parameters.length) = some 2 := by decide +kernel
set_option maxHeartbeats 1000000 in
theorem k_teach (hC : lawC p s m c b L n0 G Z cells slots) {a : Nat} (ha : 8 * a + 8 ≤ L) (hl : lv_has ls 4 (lwL b n0 a)) (hI : LI b L xs s G Z n0 H locs) (kk : ∀ (H : Heap) (locs : List Loc), LI b L xs s G Z n0 H locs → W p l e room_1 s m #[Value.ref b] below meth c H locs cells slots Q (F0 m 1304 ls [])) : W p l e room_1 s m #[Value.ref b] below meth c H locs cells slots Q (F0 m 487 ls []) := by
  obtain ⟨hS, hT, hbn, hK, hAZ, hL5, hce, hsl⟩ := hC
  have hx := hS.1
  have hb := hS.2.1
  have hown := hS.2.2.2.1
  have hts := hS.2.2.2.2
  obtain ⟨hH, wd, wt, tk, rn, bo, x, hc5, hm6, hI9⟩ := hI
  obtain ⟨v, wd2, wt2, tk2, rn2, bo2, h5, h6⟩ := p_teach l G Z n0 hAZ hI9 (xs (8 * a + 1)) (xs (8 * a + 2))
  refine lv_aload_n hx hb dL_law_487 rfl (lv_at hl 1 rfl) ?_
  refine L_rd hx hb hH.1 hl (i := 1) (by omega) hL5 dL_law_488 dL_law_489 dL_law_490 (by decide +kernel) dL_law_491 dL_law_492 ?_
  refine L_rd hx hb hH.1 hl (i := 2) (by omega) hL5 dL_law_493 dL_law_494 dL_law_495 (by decide +kernel) dL_law_496 dL_law_497 ?_
  refine r5 (wd := wd) (wt := wt) (tk := tk) (rn := rn) (bo := bo) hbn hAZ hH hm6 (va_runV (As := [.int (xs (8 * a + 1)), .int (xs (8 * a + 2))]) (rest := []) hS h5 (cwV 2 hts gL_law_X5_teach rfl rfl rfl kd_X5_teach ⟨Nat.le_of_ble_eq_true rfl, Nat.le_of_ble_eq_true rfl⟩) (a_preV hK hH.2.1 hc5.1 rfl hc5) rfl rfl hl.1 rfl (lv_room (Nat.le_of_ble_eq_true rfl)) dL_law_498 ⟨hce, hsl⟩) (fun H locs hH hc5 hm6 => ?_)
  refine lv_aload_n hx hb dL_law_501 rfl (lv_at hl 2 rfl) ?_
  refine L_rd hx hb hH.1 hl (i := 1) (by omega) hL5 dL_law_502 dL_law_503 dL_law_504 (by decide +kernel) dL_law_505 dL_law_506 ?_
  refine L_rd hx hb hH.1 hl (i := 2) (by omega) hL5 dL_law_507 dL_law_508 dL_law_509 (by decide +kernel) dL_law_510 dL_law_511 ?_
  refine r6 hbn hAZ hH hc5 (va_runV (As := [.int (xs (8 * a + 1)), .int (xs (8 * a + 2))]) (rest := [.int v]) hS h6 (cwV 2 hts gL_law_X6_teach rfl rfl rfl kd_X6_teach ⟨Nat.le_of_ble_eq_true rfl, Nat.le_of_ble_eq_true rfl⟩) (a_preV hK hH.2.1 hm6.1 rfl hm6) rfl rfl hl.1 rfl (lv_room (Nat.le_of_ble_eq_true rfl)) dL_law_512 ⟨hce, hsl⟩) (fun H locs y hH hc5 hm6 hI2 => ?_)
  exact L_if_eq rfl hx hb dL_law_515 (by decide) (kk H locs ⟨hH, wd2, wt2, tk2, rn2, bo2, y, hc5, hm6, hI2⟩)
theorem kd_X5_feed : yX5_feed.cls = RX5 ∧ yX5_feed.cls ≠ "java/lang/invoke/MethodHandle" ∧ yX5_feed.cls ≠ "java/lang/invoke/VarHandle" ∧ (parseMethodDescriptor yX5_feed.desc).map (fun d => d.parameters.length) = some 2 := by decide +kernel
theorem kd_X6_feed : yX6_feed.cls = RX6 ∧ yX6_feed.cls ≠ "java/lang/invoke/MethodHandle" ∧ yX6_feed.cls ≠ "java/lang/invoke/VarHandle" ∧ (parseMethodDescriptor yX6_feed.desc).map (fun d => d.parameters.length) = some 2 := by decide +kernel
set_option maxHeartbeats 1000000 in
theorem k_feed (hC : lawC p s m c b L n0 G Z cells slots) {a : Nat} (ha : 8 * a + 8 ≤ L) (hl : lv_has ls 4 (lwL b n0 a)) (hI : LI b L xs s G Z n0 H locs) (kk : ∀ (H : Heap) (locs : List Loc), LI b L xs s G Z n0 H locs → W p l e room_1 s m #[Value.ref b] below meth c H locs cells slots Q (F0 m 1304 ls [])) : W p l e room_1 s m #[Value.ref b] below meth c H locs cells slots Q (F0 m 520 ls []) := by
  obtain ⟨hS, hT, hbn, hK, hAZ, hL5, hce, hsl⟩ := hC
  have hx := hS.1
  have hb := hS.2.1
  have hown := hS.2.2.2.1
  have hts := hS.2.2.2.2
  obtain ⟨hH, wd, wt, tk, rn, bo, x, hc5, hm6, hI9⟩ := hI
  obtain ⟨v, wd2, wt2, tk2, rn2, bo2, h5, h6⟩ := p_feed l G Z n0 hAZ hI9 (lwW (xs (8 * a + 1)) (xs (8 * a + 2))) (xs (8 * a + 3))
  refine lv_aload_n hx hb dL_law_520 rfl (lv_at hl 1 rfl) ?_
  refine L_rd hx hb hH.1 hl (i := 1) (by omega) hL5 dL_law_521 dL_law_522 dL_law_523 (by decide +kernel) dL_law_524 dL_law_525 ?_
  refine lv_i2l hx hb dL_law_526 rfl ?_
  refine lv_bipush (v := 32) hx hb dL_law_527 (by decide +kernel) ?_
  refine lv_lshl hx hb dL_law_529 rfl ?_
  refine L_rd hx hb hH.1 hl (i := 2) (by omega) hL5 dL_law_530 dL_law_531 dL_law_532 (by decide +kernel) dL_law_533 dL_law_534 ?_
  refine lv_i2l hx hb dL_law_535 rfl ?_
  refine lv_ldc2 (own := RL) (v := 4294967295) hx hb hown (hT _ (lwT5 177 (by decide +kernel))) dL_law_536 ?_
  refine lv_land hx hb dL_law_539 ?_
  refine lv_lor hx hb dL_law_540 ?_
  refine L_rd hx hb hH.1 hl (i := 3) (by omega) hL5 dL_law_541 dL_law_542 dL_law_543 (by decide +kernel) dL_law_544 dL_law_545 ?_
  refine r5 (wd := wd) (wt := wt) (tk := tk) (rn := rn) (bo := bo) hbn hAZ hH hm6 (va_runV (As := [.long (lwW (xs (8 * a + 1)) (xs (8 * a + 2))), .int (xs (8 * a + 3))]) (rest := []) hS h5 (cwV 2 hts gL_law_X5_feed rfl rfl rfl kd_X5_feed ⟨Nat.le_of_ble_eq_true rfl, Nat.le_of_ble_eq_true rfl⟩) (a_preV hK hH.2.1 hc5.1 rfl hc5) rfl rfl hl.1 rfl (lv_room (Nat.le_of_ble_eq_true rfl)) dL_law_546 ⟨hce, hsl⟩) (fun H locs hH hc5 hm6 => ?_)
  refine lv_aload_n hx hb dL_law_549 rfl (lv_at hl 2 rfl) ?_
  refine L_rd hx hb hH.1 hl (i := 1) (by omega) hL5 dL_law_550 dL_law_551 dL_law_552 (by decide +kernel) dL_law_553 dL_law_554 ?_
  refine lv_i2l hx hb dL_law_555 rfl ?_
  refine lv_bipush (v := 32) hx hb dL_law_556 (by decide +kernel) ?_
  refine lv_lshl hx hb dL_law_558 rfl ?_
  refine L_rd hx hb hH.1 hl (i := 2) (by omega) hL5 dL_law_559 dL_law_560 dL_law_561 (by decide +kernel) dL_law_562 dL_law_563 ?_
  refine lv_i2l hx hb dL_law_564 rfl ?_
  refine lv_ldc2 (own := RL) (v := 4294967295) hx hb hown (hT _ (lwT5 177 (by decide +kernel))) dL_law_565 ?_
  refine lv_land hx hb dL_law_568 ?_
  refine lv_lor hx hb dL_law_569 ?_
  refine L_rd hx hb hH.1 hl (i := 3) (by omega) hL5 dL_law_570 dL_law_571 dL_law_572 (by decide +kernel) dL_law_573 dL_law_574 ?_
  refine r6 hbn hAZ hH hc5 (va_runV (As := [.long (lwW (xs (8 * a + 1)) (xs (8 * a + 2))), .int (xs (8 * a + 3))]) (rest := [.int v]) hS h6 (cwV 2 hts gL_law_X6_feed rfl rfl rfl kd_X6_feed ⟨Nat.le_of_ble_eq_true rfl, Nat.le_of_ble_eq_true rfl⟩) (a_preV hK hH.2.1 hm6.1 rfl hm6) rfl rfl hl.1 rfl (lv_room (Nat.le_of_ble_eq_true rfl)) dL_law_575 ⟨hce, hsl⟩) (fun H locs y hH hc5 hm6 hI2 => ?_)
  exact L_if_eq rfl hx hb dL_law_578 (by decide) (kk H locs ⟨hH, wd2, wt2, tk2, rn2, bo2, y, hc5, hm6, hI2⟩)
theorem kd_X5_law : yX5_law.cls = RX5 ∧ yX5_law.cls ≠ "java/lang/invoke/MethodHandle" ∧ yX5_law.cls ≠ "java/lang/invoke/VarHandle" ∧ (parseMethodDescriptor yX5_law.desc).map (fun d => d.parameters.length) = some 2 := by decide +kernel
theorem kd_X6_law : yX6_law.cls = RX6 ∧ yX6_law.cls ≠ "java/lang/invoke/MethodHandle" ∧ yX6_law.cls ≠ "java/lang/invoke/VarHandle" ∧ (parseMethodDescriptor yX6_law.desc).map (fun d => d.parameters.length) = some 2 := by decide +kernel
set_option maxHeartbeats 1000000 in
theorem k_law (hC : lawC p s m c b L n0 G Z cells slots) {a : Nat} (ha : 8 * a + 8 ≤ L) (hl : lv_has ls 4 (lwL b n0 a)) (hI : LI b L xs s G Z n0 H locs) (kk : ∀ (H : Heap) (locs : List Loc), LI b L xs s G Z n0 H locs → W p l e room_1 s m #[Value.ref b] below meth c H locs cells slots Q (F0 m 1304 ls [])) : W p l e room_1 s m #[Value.ref b] below meth c H locs cells slots Q (F0 m 583 ls []) := by
  obtain ⟨hS, hT, hbn, hK, hAZ, hL5, hce, hsl⟩ := hC
  have hx := hS.1
  have hb := hS.2.1
  have hown := hS.2.2.2.1
  have hts := hS.2.2.2.2
  obtain ⟨hH, wd, wt, tk, rn, bo, x, hc5, hm6, hI9⟩ := hI
  obtain ⟨v, wd2, wt2, tk2, rn2, bo2, h5, h6⟩ := p_law l G Z n0 hAZ hI9 (xs (8 * a + 1)) (xs (8 * a + 2))
  refine lv_aload_n hx hb dL_law_583 rfl (lv_at hl 1 rfl) ?_
  refine L_rd hx hb hH.1 hl (i := 1) (by omega) hL5 dL_law_584 dL_law_585 dL_law_586 (by decide +kernel) dL_law_587 dL_law_588 ?_
  refine L_rd hx hb hH.1 hl (i := 2) (by omega) hL5 dL_law_589 dL_law_590 dL_law_591 (by decide +kernel) dL_law_592 dL_law_593 ?_
  refine r5 (wd := wd) (wt := wt) (tk := tk) (rn := rn) (bo := bo) hbn hAZ hH hm6 (va_runV (As := [.int (xs (8 * a + 1)), .int (xs (8 * a + 2))]) (rest := []) hS h5 (cwV 2 hts gL_law_X5_law rfl rfl rfl kd_X5_law ⟨Nat.le_of_ble_eq_true rfl, Nat.le_of_ble_eq_true rfl⟩) (a_preV hK hH.2.1 hc5.1 rfl hc5) rfl rfl hl.1 rfl (lv_room (Nat.le_of_ble_eq_true rfl)) dL_law_594 ⟨hce, hsl⟩) (fun H locs hH hc5 hm6 => ?_)
  refine lv_aload_n hx hb dL_law_597 rfl (lv_at hl 2 rfl) ?_
  refine L_rd hx hb hH.1 hl (i := 1) (by omega) hL5 dL_law_598 dL_law_599 dL_law_600 (by decide +kernel) dL_law_601 dL_law_602 ?_
  refine L_rd hx hb hH.1 hl (i := 2) (by omega) hL5 dL_law_603 dL_law_604 dL_law_605 (by decide +kernel) dL_law_606 dL_law_607 ?_
  refine r6 hbn hAZ hH hc5 (va_runV (As := [.int (xs (8 * a + 1)), .int (xs (8 * a + 2))]) (rest := [.int v]) hS h6 (cwV 2 hts gL_law_X6_law rfl rfl rfl kd_X6_law ⟨Nat.le_of_ble_eq_true rfl, Nat.le_of_ble_eq_true rfl⟩) (a_preV hK hH.2.1 hm6.1 rfl hm6) rfl rfl hl.1 rfl (lv_room (Nat.le_of_ble_eq_true rfl)) dL_law_608 ⟨hce, hsl⟩) (fun H locs y hH hc5 hm6 hI2 => ?_)
  exact L_if_eq rfl hx hb dL_law_611 (by decide) (kk H locs ⟨hH, wd2, wt2, tk2, rn2, bo2, y, hc5, hm6, hI2⟩)
theorem kd_X5_told : yX5_told.cls = RX5 ∧ yX5_told.cls ≠ "java/lang/invoke/MethodHandle" ∧ yX5_told.cls ≠ "java/lang/invoke/VarHandle" ∧ (parseMethodDescriptor yX5_told.desc).map (fun d => d.parameters.length) = some 2 := by decide +kernel
theorem kd_X6_told : yX6_told.cls = RX6 ∧ yX6_told.cls ≠ "java/lang/invoke/MethodHandle" ∧ yX6_told.cls ≠ "java/lang/invoke/VarHandle" ∧ (parseMethodDescriptor yX6_told.desc).map (fun d => d.parameters.length) = some 2 := by decide +kernel
set_option maxHeartbeats 1000000 in
theorem k_told (hC : lawC p s m c b L n0 G Z cells slots) {a : Nat} (ha : 8 * a + 8 ≤ L) (hl : lv_has ls 4 (lwL b n0 a)) (hI : LI b L xs s G Z n0 H locs) (kk : ∀ (H : Heap) (locs : List Loc), LI b L xs s G Z n0 H locs → W p l e room_1 s m #[Value.ref b] below meth c H locs cells slots Q (F0 m 1304 ls [])) : W p l e room_1 s m #[Value.ref b] below meth c H locs cells slots Q (F0 m 616 ls []) := by
  obtain ⟨hS, hT, hbn, hK, hAZ, hL5, hce, hsl⟩ := hC
  have hx := hS.1
  have hb := hS.2.1
  have hown := hS.2.2.2.1
  have hts := hS.2.2.2.2
  obtain ⟨hH, wd, wt, tk, rn, bo, x, hc5, hm6, hI9⟩ := hI
  obtain ⟨v, wd2, wt2, tk2, rn2, bo2, h5, h6⟩ := p_told l G Z n0 hAZ hI9 (xs (8 * a + 1)) (xs (8 * a + 2))
  refine lv_aload_n hx hb dL_law_616 rfl (lv_at hl 1 rfl) ?_
  refine L_rd hx hb hH.1 hl (i := 1) (by omega) hL5 dL_law_617 dL_law_618 dL_law_619 (by decide +kernel) dL_law_620 dL_law_621 ?_
  refine L_rd hx hb hH.1 hl (i := 2) (by omega) hL5 dL_law_622 dL_law_623 dL_law_624 (by decide +kernel) dL_law_625 dL_law_626 ?_
  refine r5 (wd := wd) (wt := wt) (tk := tk) (rn := rn) (bo := bo) hbn hAZ hH hm6 (va_runV (As := [.int (xs (8 * a + 1)), .int (xs (8 * a + 2))]) (rest := []) hS h5 (cwV 2 hts gL_law_X5_told rfl rfl rfl kd_X5_told ⟨Nat.le_of_ble_eq_true rfl, Nat.le_of_ble_eq_true rfl⟩) (a_preV hK hH.2.1 hc5.1 rfl hc5) rfl rfl hl.1 rfl (lv_room (Nat.le_of_ble_eq_true rfl)) dL_law_627 ⟨hce, hsl⟩) (fun H locs hH hc5 hm6 => ?_)
  refine lv_aload_n hx hb dL_law_630 rfl (lv_at hl 2 rfl) ?_
  refine L_rd hx hb hH.1 hl (i := 1) (by omega) hL5 dL_law_631 dL_law_632 dL_law_633 (by decide +kernel) dL_law_634 dL_law_635 ?_
  refine L_rd hx hb hH.1 hl (i := 2) (by omega) hL5 dL_law_636 dL_law_637 dL_law_638 (by decide +kernel) dL_law_639 dL_law_640 ?_
  refine r6 hbn hAZ hH hc5 (va_runV (As := [.int (xs (8 * a + 1)), .int (xs (8 * a + 2))]) (rest := [.int v]) hS h6 (cwV 2 hts gL_law_X6_told rfl rfl rfl kd_X6_told ⟨Nat.le_of_ble_eq_true rfl, Nat.le_of_ble_eq_true rfl⟩) (a_preV hK hH.2.1 hm6.1 rfl hm6) rfl rfl hl.1 rfl (lv_room (Nat.le_of_ble_eq_true rfl)) dL_law_641 ⟨hce, hsl⟩) (fun H locs y hH hc5 hm6 hI2 => ?_)
  exact L_if_eq rfl hx hb dL_law_644 (by decide) (kk H locs ⟨hH, wd2, wt2, tk2, rn2, bo2, y, hc5, hm6, hI2⟩)
theorem kd_X5_keeps : yX5_keeps.cls = RX5 ∧ yX5_keeps.cls ≠ "java/lang/invoke/MethodHandle" ∧ yX5_keeps.cls ≠ "java/lang/invoke/VarHandle" ∧ (parseMethodDescriptor yX5_keeps.desc).map (fun d => d.parameters.length) = some 3 := by decide +kernel
theorem kd_X6_keeps : yX6_keeps.cls = RX6 ∧ yX6_keeps.cls ≠ "java/lang/invoke/MethodHandle" ∧ yX6_keeps.cls ≠ "java/lang/invoke/VarHandle" ∧ (parseMethodDescriptor yX6_keeps.desc).map (fun d => d.parameters.length) = some 3 := by decide +kernel
set_option maxHeartbeats 1000000 in
theorem k_keeps (hC : lawC p s m c b L n0 G Z cells slots) {a : Nat} (ha : 8 * a + 8 ≤ L) (hl : lv_has ls 4 (lwL b n0 a)) (hI : LI b L xs s G Z n0 H locs) (kk : ∀ (H : Heap) (locs : List Loc), LI b L xs s G Z n0 H locs → W p l e room_1 s m #[Value.ref b] below meth c H locs cells slots Q (F0 m 1304 ls [])) : W p l e room_1 s m #[Value.ref b] below meth c H locs cells slots Q (F0 m 649 ls []) := by
  obtain ⟨hS, hT, hbn, hK, hAZ, hL5, hce, hsl⟩ := hC
  have hx := hS.1
  have hb := hS.2.1
  have hown := hS.2.2.2.1
  have hts := hS.2.2.2.2
  obtain ⟨hH, wd, wt, tk, rn, bo, x, hc5, hm6, hI9⟩ := hI
  obtain ⟨v, wd2, wt2, tk2, rn2, bo2, h5, h6⟩ := p_keeps l G Z n0 hAZ hI9 (xs (8 * a + 1)) (xs (8 * a + 2)) (xs (8 * a + 3))
  refine lv_aload_n hx hb dL_law_649 rfl (lv_at hl 1 rfl) ?_
  refine L_rd hx hb hH.1 hl (i := 1) (by omega) hL5 dL_law_650 dL_law_651 dL_law_652 (by decide +kernel) dL_law_653 dL_law_654 ?_
  refine L_rd hx hb hH.1 hl (i := 2) (by omega) hL5 dL_law_655 dL_law_656 dL_law_657 (by decide +kernel) dL_law_658 dL_law_659 ?_
  refine L_rd hx hb hH.1 hl (i := 3) (by omega) hL5 dL_law_660 dL_law_661 dL_law_662 (by decide +kernel) dL_law_663 dL_law_664 ?_
  refine r5 (wd := wd) (wt := wt) (tk := tk) (rn := rn) (bo := bo) hbn hAZ hH hm6 (va_runV (As := [.int (xs (8 * a + 1)), .int (xs (8 * a + 2)), .int (xs (8 * a + 3))]) (rest := []) hS h5 (cwV 3 hts gL_law_X5_keeps rfl rfl rfl kd_X5_keeps ⟨Nat.le_of_ble_eq_true rfl, Nat.le_of_ble_eq_true rfl⟩) (a_preV hK hH.2.1 hc5.1 rfl hc5) rfl rfl hl.1 rfl (lv_room (Nat.le_of_ble_eq_true rfl)) dL_law_665 ⟨hce, hsl⟩) (fun H locs hH hc5 hm6 => ?_)
  refine lv_aload_n hx hb dL_law_668 rfl (lv_at hl 2 rfl) ?_
  refine L_rd hx hb hH.1 hl (i := 1) (by omega) hL5 dL_law_669 dL_law_670 dL_law_671 (by decide +kernel) dL_law_672 dL_law_673 ?_
  refine L_rd hx hb hH.1 hl (i := 2) (by omega) hL5 dL_law_674 dL_law_675 dL_law_676 (by decide +kernel) dL_law_677 dL_law_678 ?_
  refine L_rd hx hb hH.1 hl (i := 3) (by omega) hL5 dL_law_679 dL_law_680 dL_law_681 (by decide +kernel) dL_law_682 dL_law_683 ?_
  refine r6 hbn hAZ hH hc5 (va_runV (As := [.int (xs (8 * a + 1)), .int (xs (8 * a + 2)), .int (xs (8 * a + 3))]) (rest := [.int v]) hS h6 (cwV 3 hts gL_law_X6_keeps rfl rfl rfl kd_X6_keeps ⟨Nat.le_of_ble_eq_true rfl, Nat.le_of_ble_eq_true rfl⟩) (a_preV hK hH.2.1 hm6.1 rfl hm6) rfl rfl hl.1 rfl (lv_room (Nat.le_of_ble_eq_true rfl)) dL_law_684 ⟨hce, hsl⟩) (fun H locs y hH hc5 hm6 hI2 => ?_)
  exact L_if_eq rfl hx hb dL_law_687 (by decide) (kk H locs ⟨hH, wd2, wt2, tk2, rn2, bo2, y, hc5, hm6, hI2⟩)
theorem kd_X5_tells : yX5_tells.cls = RX5 ∧ yX5_tells.cls ≠ "java/lang/invoke/MethodHandle" ∧ yX5_tells.cls ≠ "java/lang/invoke/VarHandle" ∧ (parseMethodDescriptor yX5_tells.desc).map (fun d => d.parameters.length) = some 3 := by decide +kernel
theorem kd_X6_tells : yX6_tells.cls = RX6 ∧ yX6_tells.cls ≠ "java/lang/invoke/MethodHandle" ∧ yX6_tells.cls ≠ "java/lang/invoke/VarHandle" ∧ (parseMethodDescriptor yX6_tells.desc).map (fun d => d.parameters.length) = some 3 := by decide +kernel
set_option maxHeartbeats 1000000 in
theorem k_tells (hC : lawC p s m c b L n0 G Z cells slots) {a : Nat} (ha : 8 * a + 8 ≤ L) (hl : lv_has ls 4 (lwL b n0 a)) (hI : LI b L xs s G Z n0 H locs) (kk : ∀ (H : Heap) (locs : List Loc), LI b L xs s G Z n0 H locs → W p l e room_1 s m #[Value.ref b] below meth c H locs cells slots Q (F0 m 1304 ls [])) : W p l e room_1 s m #[Value.ref b] below meth c H locs cells slots Q (F0 m 692 ls []) := by
  obtain ⟨hS, hT, hbn, hK, hAZ, hL5, hce, hsl⟩ := hC
  have hx := hS.1
  have hb := hS.2.1
  have hown := hS.2.2.2.1
  have hts := hS.2.2.2.2
  obtain ⟨hH, wd, wt, tk, rn, bo, x, hc5, hm6, hI9⟩ := hI
  obtain ⟨v, wd2, wt2, tk2, rn2, bo2, h5, h6⟩ := p_tells l G Z n0 hAZ hI9 (xs (8 * a + 1)) (xs (8 * a + 2)) (xs (8 * a + 3))
  refine lv_aload_n hx hb dL_law_692 rfl (lv_at hl 1 rfl) ?_
  refine L_rd hx hb hH.1 hl (i := 1) (by omega) hL5 dL_law_693 dL_law_694 dL_law_695 (by decide +kernel) dL_law_696 dL_law_697 ?_
  refine L_rd hx hb hH.1 hl (i := 2) (by omega) hL5 dL_law_698 dL_law_699 dL_law_700 (by decide +kernel) dL_law_701 dL_law_702 ?_
  refine L_rd hx hb hH.1 hl (i := 3) (by omega) hL5 dL_law_703 dL_law_704 dL_law_705 (by decide +kernel) dL_law_706 dL_law_707 ?_
  refine r5 (wd := wd) (wt := wt) (tk := tk) (rn := rn) (bo := bo) hbn hAZ hH hm6 (va_runV (As := [.int (xs (8 * a + 1)), .int (xs (8 * a + 2)), .int (xs (8 * a + 3))]) (rest := []) hS h5 (cwV 3 hts gL_law_X5_tells rfl rfl rfl kd_X5_tells ⟨Nat.le_of_ble_eq_true rfl, Nat.le_of_ble_eq_true rfl⟩) (a_preV hK hH.2.1 hc5.1 rfl hc5) rfl rfl hl.1 rfl (lv_room (Nat.le_of_ble_eq_true rfl)) dL_law_708 ⟨hce, hsl⟩) (fun H locs hH hc5 hm6 => ?_)
  refine lv_aload_n hx hb dL_law_711 rfl (lv_at hl 2 rfl) ?_
  refine L_rd hx hb hH.1 hl (i := 1) (by omega) hL5 dL_law_712 dL_law_713 dL_law_714 (by decide +kernel) dL_law_715 dL_law_716 ?_
  refine L_rd hx hb hH.1 hl (i := 2) (by omega) hL5 dL_law_717 dL_law_718 dL_law_719 (by decide +kernel) dL_law_720 dL_law_721 ?_
  refine L_rd hx hb hH.1 hl (i := 3) (by omega) hL5 dL_law_722 dL_law_723 dL_law_724 (by decide +kernel) dL_law_725 dL_law_726 ?_
  refine r6 hbn hAZ hH hc5 (va_runV (As := [.int (xs (8 * a + 1)), .int (xs (8 * a + 2)), .int (xs (8 * a + 3))]) (rest := [.int v]) hS h6 (cwV 3 hts gL_law_X6_tells rfl rfl rfl kd_X6_tells ⟨Nat.le_of_ble_eq_true rfl, Nat.le_of_ble_eq_true rfl⟩) (a_preV hK hH.2.1 hm6.1 rfl hm6) rfl rfl hl.1 rfl (lv_room (Nat.le_of_ble_eq_true rfl)) dL_law_727 ⟨hce, hsl⟩) (fun H locs y hH hc5 hm6 hI2 => ?_)
  exact L_if_eq rfl hx hb dL_law_730 (by decide) (kk H locs ⟨hH, wd2, wt2, tk2, rn2, bo2, y, hc5, hm6, hI2⟩)
theorem kd_X5_chance : yX5_chance.cls = RX5 ∧ yX5_chance.cls ≠ "java/lang/invoke/MethodHandle" ∧ yX5_chance.cls ≠ "java/lang/invoke/VarHandle" ∧ (parseMethodDescriptor yX5_chance.desc).map (fun d => d.parameters.length) = some 3 := by decide +kernel
theorem kd_X6_chance : yX6_chance.cls = RX6 ∧ yX6_chance.cls ≠ "java/lang/invoke/MethodHandle" ∧ yX6_chance.cls ≠ "java/lang/invoke/VarHandle" ∧ (parseMethodDescriptor yX6_chance.desc).map (fun d => d.parameters.length) = some 3 := by decide +kernel
set_option maxHeartbeats 1000000 in
theorem k_chance (hC : lawC p s m c b L n0 G Z cells slots) {a : Nat} (ha : 8 * a + 8 ≤ L) (hl : lv_has ls 4 (lwL b n0 a)) (hI : LI b L xs s G Z n0 H locs) (kk : ∀ (H : Heap) (locs : List Loc), LI b L xs s G Z n0 H locs → W p l e room_1 s m #[Value.ref b] below meth c H locs cells slots Q (F0 m 1304 ls [])) : W p l e room_1 s m #[Value.ref b] below meth c H locs cells slots Q (F0 m 735 ls []) := by
  obtain ⟨hS, hT, hbn, hK, hAZ, hL5, hce, hsl⟩ := hC
  have hx := hS.1
  have hb := hS.2.1
  have hown := hS.2.2.2.1
  have hts := hS.2.2.2.2
  obtain ⟨hH, wd, wt, tk, rn, bo, x, hc5, hm6, hI9⟩ := hI
  obtain ⟨v, wd2, wt2, tk2, rn2, bo2, h5, h6⟩ := p_chance l G Z n0 hAZ hI9 (xs (8 * a + 1)) (xs (8 * a + 2)) (xs (8 * a + 3))
  refine lv_aload_n hx hb dL_law_735 rfl (lv_at hl 1 rfl) ?_
  refine L_rd hx hb hH.1 hl (i := 1) (by omega) hL5 dL_law_736 dL_law_737 dL_law_738 (by decide +kernel) dL_law_739 dL_law_740 ?_
  refine L_rd hx hb hH.1 hl (i := 2) (by omega) hL5 dL_law_741 dL_law_742 dL_law_743 (by decide +kernel) dL_law_744 dL_law_745 ?_
  refine L_rd hx hb hH.1 hl (i := 3) (by omega) hL5 dL_law_746 dL_law_747 dL_law_748 (by decide +kernel) dL_law_749 dL_law_750 ?_
  refine r5 (wd := wd) (wt := wt) (tk := tk) (rn := rn) (bo := bo) hbn hAZ hH hm6 (va_runV (As := [.int (xs (8 * a + 1)), .int (xs (8 * a + 2)), .int (xs (8 * a + 3))]) (rest := []) hS h5 (cwV 3 hts gL_law_X5_chance rfl rfl rfl kd_X5_chance ⟨Nat.le_of_ble_eq_true rfl, Nat.le_of_ble_eq_true rfl⟩) (a_preV hK hH.2.1 hc5.1 rfl hc5) rfl rfl hl.1 rfl (lv_room (Nat.le_of_ble_eq_true rfl)) dL_law_751 ⟨hce, hsl⟩) (fun H locs hH hc5 hm6 => ?_)
  refine lv_aload_n hx hb dL_law_754 rfl (lv_at hl 2 rfl) ?_
  refine L_rd hx hb hH.1 hl (i := 1) (by omega) hL5 dL_law_755 dL_law_756 dL_law_757 (by decide +kernel) dL_law_758 dL_law_759 ?_
  refine L_rd hx hb hH.1 hl (i := 2) (by omega) hL5 dL_law_760 dL_law_761 dL_law_762 (by decide +kernel) dL_law_763 dL_law_764 ?_
  refine L_rd hx hb hH.1 hl (i := 3) (by omega) hL5 dL_law_765 dL_law_766 dL_law_767 (by decide +kernel) dL_law_768 dL_law_769 ?_
  refine r6 hbn hAZ hH hc5 (va_runV (As := [.int (xs (8 * a + 1)), .int (xs (8 * a + 2)), .int (xs (8 * a + 3))]) (rest := [.long v]) hS h6 (cwV 3 hts gL_law_X6_chance rfl rfl rfl kd_X6_chance ⟨Nat.le_of_ble_eq_true rfl, Nat.le_of_ble_eq_true rfl⟩) (a_preV hK hH.2.1 hm6.1 rfl hm6) rfl rfl hl.1 rfl (lv_room (Nat.le_of_ble_eq_true rfl)) dL_law_770 ⟨hce, hsl⟩) (fun H locs y hH hc5 hm6 hI2 => ?_)
  exact L_leq hx hb dL_law_773 dL_law_774 (by decide) (kk H locs ⟨hH, wd2, wt2, tk2, rn2, bo2, y, hc5, hm6, hI2⟩)
theorem kd_X5_odds : yX5_odds.cls = RX5 ∧ yX5_odds.cls ≠ "java/lang/invoke/MethodHandle" ∧ yX5_odds.cls ≠ "java/lang/invoke/VarHandle" ∧ (parseMethodDescriptor yX5_odds.desc).map (fun d => d.parameters.length) = some 3 := by decide +kernel
theorem kd_X6_odds : yX6_odds.cls = RX6 ∧ yX6_odds.cls ≠ "java/lang/invoke/MethodHandle" ∧ yX6_odds.cls ≠ "java/lang/invoke/VarHandle" ∧ (parseMethodDescriptor yX6_odds.desc).map (fun d => d.parameters.length) = some 3 := by decide +kernel
set_option maxHeartbeats 1000000 in
theorem k_odds (hC : lawC p s m c b L n0 G Z cells slots) {a : Nat} (ha : 8 * a + 8 ≤ L) (hl : lv_has ls 4 (lwL b n0 a)) (hI : LI b L xs s G Z n0 H locs) (kk : ∀ (H : Heap) (locs : List Loc), LI b L xs s G Z n0 H locs → W p l e room_1 s m #[Value.ref b] below meth c H locs cells slots Q (F0 m 1304 ls [])) : W p l e room_1 s m #[Value.ref b] below meth c H locs cells slots Q (F0 m 779 ls []) := by
  obtain ⟨hS, hT, hbn, hK, hAZ, hL5, hce, hsl⟩ := hC
  have hx := hS.1
  have hb := hS.2.1
  have hown := hS.2.2.2.1
  have hts := hS.2.2.2.2
  obtain ⟨hH, wd, wt, tk, rn, bo, x, hc5, hm6, hI9⟩ := hI
  obtain ⟨v, wd2, wt2, tk2, rn2, bo2, h5, h6⟩ := p_odds l G Z n0 hAZ hI9 (xs (8 * a + 1)) (xs (8 * a + 2)) (xs (8 * a + 3))
  refine lv_aload_n hx hb dL_law_779 rfl (lv_at hl 1 rfl) ?_
  refine L_rd hx hb hH.1 hl (i := 1) (by omega) hL5 dL_law_780 dL_law_781 dL_law_782 (by decide +kernel) dL_law_783 dL_law_784 ?_
  refine L_rd hx hb hH.1 hl (i := 2) (by omega) hL5 dL_law_785 dL_law_786 dL_law_787 (by decide +kernel) dL_law_788 dL_law_789 ?_
  refine L_rd hx hb hH.1 hl (i := 3) (by omega) hL5 dL_law_790 dL_law_791 dL_law_792 (by decide +kernel) dL_law_793 dL_law_794 ?_
  refine r5 (wd := wd) (wt := wt) (tk := tk) (rn := rn) (bo := bo) hbn hAZ hH hm6 (va_runV (As := [.int (xs (8 * a + 1)), .int (xs (8 * a + 2)), .int (xs (8 * a + 3))]) (rest := []) hS h5 (cwV 3 hts gL_law_X5_odds rfl rfl rfl kd_X5_odds ⟨Nat.le_of_ble_eq_true rfl, Nat.le_of_ble_eq_true rfl⟩) (a_preV hK hH.2.1 hc5.1 rfl hc5) rfl rfl hl.1 rfl (lv_room (Nat.le_of_ble_eq_true rfl)) dL_law_795 ⟨hce, hsl⟩) (fun H locs hH hc5 hm6 => ?_)
  refine lv_aload_n hx hb dL_law_798 rfl (lv_at hl 2 rfl) ?_
  refine L_rd hx hb hH.1 hl (i := 1) (by omega) hL5 dL_law_799 dL_law_800 dL_law_801 (by decide +kernel) dL_law_802 dL_law_803 ?_
  refine L_rd hx hb hH.1 hl (i := 2) (by omega) hL5 dL_law_804 dL_law_805 dL_law_806 (by decide +kernel) dL_law_807 dL_law_808 ?_
  refine L_rd hx hb hH.1 hl (i := 3) (by omega) hL5 dL_law_809 dL_law_810 dL_law_811 (by decide +kernel) dL_law_812 dL_law_813 ?_
  refine r6 hbn hAZ hH hc5 (va_runV (As := [.int (xs (8 * a + 1)), .int (xs (8 * a + 2)), .int (xs (8 * a + 3))]) (rest := [.long v]) hS h6 (cwV 3 hts gL_law_X6_odds rfl rfl rfl kd_X6_odds ⟨Nat.le_of_ble_eq_true rfl, Nat.le_of_ble_eq_true rfl⟩) (a_preV hK hH.2.1 hm6.1 rfl hm6) rfl rfl hl.1 rfl (lv_room (Nat.le_of_ble_eq_true rfl)) dL_law_814 ⟨hce, hsl⟩) (fun H locs y hH hc5 hm6 hI2 => ?_)
  exact L_leq hx hb dL_law_817 dL_law_818 (by decide) (kk H locs ⟨hH, wd2, wt2, tk2, rn2, bo2, y, hc5, hm6, hI2⟩)
theorem kd_X5_cannot : yX5_cannot.cls = RX5 ∧ yX5_cannot.cls ≠ "java/lang/invoke/MethodHandle" ∧ yX5_cannot.cls ≠ "java/lang/invoke/VarHandle" ∧ (parseMethodDescriptor yX5_cannot.desc).map (fun d => d.parameters.length) = some 1 := by decide +kernel
theorem kd_X6_cannot : yX6_cannot.cls = RX6 ∧ yX6_cannot.cls ≠ "java/lang/invoke/MethodHandle" ∧ yX6_cannot.cls ≠ "java/lang/invoke/VarHandle" ∧ (parseMethodDescriptor yX6_cannot.desc).map (fun d => d.parameters.length) = some 1 := by decide +kernel
set_option maxHeartbeats 1000000 in
theorem k_cannot (hC : lawC p s m c b L n0 G Z cells slots) {a : Nat} (ha : 8 * a + 8 ≤ L) (hl : lv_has ls 4 (lwL b n0 a)) (hI : LI b L xs s G Z n0 H locs) (kk : ∀ (H : Heap) (locs : List Loc), LI b L xs s G Z n0 H locs → W p l e room_1 s m #[Value.ref b] below meth c H locs cells slots Q (F0 m 1304 ls [])) : W p l e room_1 s m #[Value.ref b] below meth c H locs cells slots Q (F0 m 823 ls []) := by
  obtain ⟨hS, hT, hbn, hK, hAZ, hL5, hce, hsl⟩ := hC
  have hx := hS.1
  have hb := hS.2.1
  have hown := hS.2.2.2.1
  have hts := hS.2.2.2.2
  obtain ⟨hH, wd, wt, tk, rn, bo, x, hc5, hm6, hI9⟩ := hI
  obtain ⟨v, wd2, wt2, tk2, rn2, bo2, h5, h6⟩ := p_cannot l G Z n0 hAZ hI9 (xs (8 * a + 1))
  refine lv_aload_n hx hb dL_law_823 rfl (lv_at hl 1 rfl) ?_
  refine L_rd hx hb hH.1 hl (i := 1) (by omega) hL5 dL_law_824 dL_law_825 dL_law_826 (by decide +kernel) dL_law_827 dL_law_828 ?_
  refine r5 (wd := wd) (wt := wt) (tk := tk) (rn := rn) (bo := bo) hbn hAZ hH hm6 (va_runV (As := [.int (xs (8 * a + 1))]) (rest := []) hS h5 (cwV 1 hts gL_law_X5_cannot rfl rfl rfl kd_X5_cannot ⟨Nat.le_of_ble_eq_true rfl, Nat.le_of_ble_eq_true rfl⟩) (a_preV hK hH.2.1 hc5.1 rfl hc5) rfl rfl hl.1 rfl (lv_room (Nat.le_of_ble_eq_true rfl)) dL_law_829 ⟨hce, hsl⟩) (fun H locs hH hc5 hm6 => ?_)
  refine lv_aload_n hx hb dL_law_832 rfl (lv_at hl 2 rfl) ?_
  refine L_rd hx hb hH.1 hl (i := 1) (by omega) hL5 dL_law_833 dL_law_834 dL_law_835 (by decide +kernel) dL_law_836 dL_law_837 ?_
  refine r6 hbn hAZ hH hc5 (va_runV (As := [.int (xs (8 * a + 1))]) (rest := [.int v]) hS h6 (cwV 1 hts gL_law_X6_cannot rfl rfl rfl kd_X6_cannot ⟨Nat.le_of_ble_eq_true rfl, Nat.le_of_ble_eq_true rfl⟩) (a_preV hK hH.2.1 hm6.1 rfl hm6) rfl rfl hl.1 rfl (lv_room (Nat.le_of_ble_eq_true rfl)) dL_law_838 ⟨hce, hsl⟩) (fun H locs y hH hc5 hm6 hI2 => ?_)
  exact L_if_eq rfl hx hb dL_law_841 (by decide) (kk H locs ⟨hH, wd2, wt2, tk2, rn2, bo2, y, hc5, hm6, hI2⟩)
theorem kd_X5_right : yX5_right.cls = RX5 ∧ yX5_right.cls ≠ "java/lang/invoke/MethodHandle" ∧ yX5_right.cls ≠ "java/lang/invoke/VarHandle" ∧ (parseMethodDescriptor yX5_right.desc).map (fun d => d.parameters.length) = some 1 := by decide +kernel
theorem kd_X6_right : yX6_right.cls = RX6 ∧ yX6_right.cls ≠ "java/lang/invoke/MethodHandle" ∧ yX6_right.cls ≠ "java/lang/invoke/VarHandle" ∧ (parseMethodDescriptor yX6_right.desc).map (fun d => d.parameters.length) = some 1 := by decide +kernel
set_option maxHeartbeats 1000000 in
theorem k_right (hC : lawC p s m c b L n0 G Z cells slots) {a : Nat} (ha : 8 * a + 8 ≤ L) (hl : lv_has ls 4 (lwL b n0 a)) (hI : LI b L xs s G Z n0 H locs) (kk : ∀ (H : Heap) (locs : List Loc), LI b L xs s G Z n0 H locs → W p l e room_1 s m #[Value.ref b] below meth c H locs cells slots Q (F0 m 1304 ls [])) : W p l e room_1 s m #[Value.ref b] below meth c H locs cells slots Q (F0 m 846 ls []) := by
  obtain ⟨hS, hT, hbn, hK, hAZ, hL5, hce, hsl⟩ := hC
  have hx := hS.1
  have hb := hS.2.1
  have hown := hS.2.2.2.1
  have hts := hS.2.2.2.2
  obtain ⟨hH, wd, wt, tk, rn, bo, x, hc5, hm6, hI9⟩ := hI
  obtain ⟨v, wd2, wt2, tk2, rn2, bo2, h5, h6⟩ := p_right l G Z n0 hAZ hI9 (xs (8 * a + 1))
  refine lv_aload_n hx hb dL_law_846 rfl (lv_at hl 1 rfl) ?_
  refine L_rd hx hb hH.1 hl (i := 1) (by omega) hL5 dL_law_847 dL_law_848 dL_law_849 (by decide +kernel) dL_law_850 dL_law_851 ?_
  refine r5 (wd := wd) (wt := wt) (tk := tk) (rn := rn) (bo := bo) hbn hAZ hH hm6 (va_runV (As := [.int (xs (8 * a + 1))]) (rest := []) hS h5 (cwV 1 hts gL_law_X5_right rfl rfl rfl kd_X5_right ⟨Nat.le_of_ble_eq_true rfl, Nat.le_of_ble_eq_true rfl⟩) (a_preV hK hH.2.1 hc5.1 rfl hc5) rfl rfl hl.1 rfl (lv_room (Nat.le_of_ble_eq_true rfl)) dL_law_852 ⟨hce, hsl⟩) (fun H locs hH hc5 hm6 => ?_)
  refine lv_aload_n hx hb dL_law_855 rfl (lv_at hl 2 rfl) ?_
  refine L_rd hx hb hH.1 hl (i := 1) (by omega) hL5 dL_law_856 dL_law_857 dL_law_858 (by decide +kernel) dL_law_859 dL_law_860 ?_
  refine r6 hbn hAZ hH hc5 (va_runV (As := [.int (xs (8 * a + 1))]) (rest := [.int v]) hS h6 (cwV 1 hts gL_law_X6_right rfl rfl rfl kd_X6_right ⟨Nat.le_of_ble_eq_true rfl, Nat.le_of_ble_eq_true rfl⟩) (a_preV hK hH.2.1 hm6.1 rfl hm6) rfl rfl hl.1 rfl (lv_room (Nat.le_of_ble_eq_true rfl)) dL_law_861 ⟨hce, hsl⟩) (fun H locs y hH hc5 hm6 hI2 => ?_)
  exact L_if_eq rfl hx hb dL_law_864 (by decide) (kk H locs ⟨hH, wd2, wt2, tk2, rn2, bo2, y, hc5, hm6, hI2⟩)
theorem kd_X5_likeliest : yX5_likeliest.cls = RX5 ∧ yX5_likeliest.cls ≠ "java/lang/invoke/MethodHandle" ∧ yX5_likeliest.cls ≠ "java/lang/invoke/VarHandle" ∧ (parseMethodDescriptor yX5_likeliest.desc).map (fun d => d.parameters.length) = some 1 := by decide +kernel
theorem kd_X6_likeliest : yX6_likeliest.cls = RX6 ∧ yX6_likeliest.cls ≠ "java/lang/invoke/MethodHandle" ∧ yX6_likeliest.cls ≠ "java/lang/invoke/VarHandle" ∧ (parseMethodDescriptor yX6_likeliest.desc).map (fun d => d.parameters.length) = some 1 := by decide +kernel
set_option maxHeartbeats 1000000 in
theorem k_likeliest (hC : lawC p s m c b L n0 G Z cells slots) {a : Nat} (ha : 8 * a + 8 ≤ L) (hl : lv_has ls 4 (lwL b n0 a)) (hI : LI b L xs s G Z n0 H locs) (kk : ∀ (H : Heap) (locs : List Loc), LI b L xs s G Z n0 H locs → W p l e room_1 s m #[Value.ref b] below meth c H locs cells slots Q (F0 m 1304 ls [])) : W p l e room_1 s m #[Value.ref b] below meth c H locs cells slots Q (F0 m 869 ls []) := by
  obtain ⟨hS, hT, hbn, hK, hAZ, hL5, hce, hsl⟩ := hC
  have hx := hS.1
  have hb := hS.2.1
  have hown := hS.2.2.2.1
  have hts := hS.2.2.2.2
  obtain ⟨hH, wd, wt, tk, rn, bo, x, hc5, hm6, hI9⟩ := hI
  obtain ⟨v, wd2, wt2, tk2, rn2, bo2, h5, h6⟩ := p_likeliest l G Z n0 hAZ hI9 (xs (8 * a + 1))
  refine lv_aload_n hx hb dL_law_869 rfl (lv_at hl 1 rfl) ?_
  refine L_rd hx hb hH.1 hl (i := 1) (by omega) hL5 dL_law_870 dL_law_871 dL_law_872 (by decide +kernel) dL_law_873 dL_law_874 ?_
  refine r5 (wd := wd) (wt := wt) (tk := tk) (rn := rn) (bo := bo) hbn hAZ hH hm6 (va_runV (As := [.int (xs (8 * a + 1))]) (rest := []) hS h5 (cwV 1 hts gL_law_X5_likeliest rfl rfl rfl kd_X5_likeliest ⟨Nat.le_of_ble_eq_true rfl, Nat.le_of_ble_eq_true rfl⟩) (a_preV hK hH.2.1 hc5.1 rfl hc5) rfl rfl hl.1 rfl (lv_room (Nat.le_of_ble_eq_true rfl)) dL_law_875 ⟨hce, hsl⟩) (fun H locs hH hc5 hm6 => ?_)
  refine lv_aload_n hx hb dL_law_878 rfl (lv_at hl 2 rfl) ?_
  refine L_rd hx hb hH.1 hl (i := 1) (by omega) hL5 dL_law_879 dL_law_880 dL_law_881 (by decide +kernel) dL_law_882 dL_law_883 ?_
  refine r6 hbn hAZ hH hc5 (va_runV (As := [.int (xs (8 * a + 1))]) (rest := [.int v]) hS h6 (cwV 1 hts gL_law_X6_likeliest rfl rfl rfl kd_X6_likeliest ⟨Nat.le_of_ble_eq_true rfl, Nat.le_of_ble_eq_true rfl⟩) (a_preV hK hH.2.1 hm6.1 rfl hm6) rfl rfl hl.1 rfl (lv_room (Nat.le_of_ble_eq_true rfl)) dL_law_884 ⟨hce, hsl⟩) (fun H locs y hH hc5 hm6 hI2 => ?_)
  exact L_if_eq rfl hx hb dL_law_887 (by decide) (kk H locs ⟨hH, wd2, wt2, tk2, rn2, bo2, y, hc5, hm6, hI2⟩)
theorem kd_X5_rule : yX5_rule.cls = RX5 ∧ yX5_rule.cls ≠ "java/lang/invoke/MethodHandle" ∧ yX5_rule.cls ≠ "java/lang/invoke/VarHandle" ∧ (parseMethodDescriptor yX5_rule.desc).map (fun d => d.parameters.length) = some 1 := by decide +kernel
theorem kd_X6_rule : yX6_rule.cls = RX6 ∧ yX6_rule.cls ≠ "java/lang/invoke/MethodHandle" ∧ yX6_rule.cls ≠ "java/lang/invoke/VarHandle" ∧ (parseMethodDescriptor yX6_rule.desc).map (fun d => d.parameters.length) = some 1 := by decide +kernel
set_option maxHeartbeats 1000000 in
theorem k_rule (hC : lawC p s m c b L n0 G Z cells slots) {a : Nat} (ha : 8 * a + 8 ≤ L) (hl : lv_has ls 4 (lwL b n0 a)) (hI : LI b L xs s G Z n0 H locs) (kk : ∀ (H : Heap) (locs : List Loc), LI b L xs s G Z n0 H locs → W p l e room_1 s m #[Value.ref b] below meth c H locs cells slots Q (F0 m 1304 ls [])) : W p l e room_1 s m #[Value.ref b] below meth c H locs cells slots Q (F0 m 892 ls []) := by
  obtain ⟨hS, hT, hbn, hK, hAZ, hL5, hce, hsl⟩ := hC
  have hx := hS.1
  have hb := hS.2.1
  have hown := hS.2.2.2.1
  have hts := hS.2.2.2.2
  obtain ⟨hH, wd, wt, tk, rn, bo, x, hc5, hm6, hI9⟩ := hI
  obtain ⟨v, wd2, wt2, tk2, rn2, bo2, h5, h6⟩ := p_rule l G Z n0 hAZ hI9 (xs (8 * a + 1))
  refine lv_aload_n hx hb dL_law_892 rfl (lv_at hl 1 rfl) ?_
  refine L_rd hx hb hH.1 hl (i := 1) (by omega) hL5 dL_law_893 dL_law_894 dL_law_895 (by decide +kernel) dL_law_896 dL_law_897 ?_
  refine r5 (wd := wd) (wt := wt) (tk := tk) (rn := rn) (bo := bo) hbn hAZ hH hm6 (va_runV (As := [.int (xs (8 * a + 1))]) (rest := []) hS h5 (cwV 1 hts gL_law_X5_rule rfl rfl rfl kd_X5_rule ⟨Nat.le_of_ble_eq_true rfl, Nat.le_of_ble_eq_true rfl⟩) (a_preV hK hH.2.1 hc5.1 rfl hc5) rfl rfl hl.1 rfl (lv_room (Nat.le_of_ble_eq_true rfl)) dL_law_898 ⟨hce, hsl⟩) (fun H locs hH hc5 hm6 => ?_)
  refine lv_aload_n hx hb dL_law_901 rfl (lv_at hl 2 rfl) ?_
  refine L_rd hx hb hH.1 hl (i := 1) (by omega) hL5 dL_law_902 dL_law_903 dL_law_904 (by decide +kernel) dL_law_905 dL_law_906 ?_
  refine r6 hbn hAZ hH hc5 (va_runV (As := [.int (xs (8 * a + 1))]) (rest := [.int v]) hS h6 (cwV 1 hts gL_law_X6_rule rfl rfl rfl kd_X6_rule ⟨Nat.le_of_ble_eq_true rfl, Nat.le_of_ble_eq_true rfl⟩) (a_preV hK hH.2.1 hm6.1 rfl hm6) rfl rfl hl.1 rfl (lv_room (Nat.le_of_ble_eq_true rfl)) dL_law_907 ⟨hce, hsl⟩) (fun H locs y hH hc5 hm6 hI2 => ?_)
  exact L_if_eq rfl hx hb dL_law_910 (by decide) (kk H locs ⟨hH, wd2, wt2, tk2, rn2, bo2, y, hc5, hm6, hI2⟩)
theorem kd_X5_parts : yX5_parts.cls = RX5 ∧ yX5_parts.cls ≠ "java/lang/invoke/MethodHandle" ∧ yX5_parts.cls ≠ "java/lang/invoke/VarHandle" ∧ (parseMethodDescriptor yX5_parts.desc).map (fun d => d.parameters.length) = some 2 := by decide +kernel
theorem kd_X6_parts : yX6_parts.cls = RX6 ∧ yX6_parts.cls ≠ "java/lang/invoke/MethodHandle" ∧ yX6_parts.cls ≠ "java/lang/invoke/VarHandle" ∧ (parseMethodDescriptor yX6_parts.desc).map (fun d => d.parameters.length) = some 2 := by decide +kernel
set_option maxHeartbeats 1000000 in
theorem k_parts (hC : lawC p s m c b L n0 G Z cells slots) {a : Nat} (ha : 8 * a + 8 ≤ L) (hl : lv_has ls 4 (lwL b n0 a)) (hI : LI b L xs s G Z n0 H locs) (kk : ∀ (H : Heap) (locs : List Loc), LI b L xs s G Z n0 H locs → W p l e room_1 s m #[Value.ref b] below meth c H locs cells slots Q (F0 m 1304 ls [])) : W p l e room_1 s m #[Value.ref b] below meth c H locs cells slots Q (F0 m 915 ls []) := by
  obtain ⟨hS, hT, hbn, hK, hAZ, hL5, hce, hsl⟩ := hC
  have hx := hS.1
  have hb := hS.2.1
  have hown := hS.2.2.2.1
  have hts := hS.2.2.2.2
  obtain ⟨hH, wd, wt, tk, rn, bo, x, hc5, hm6, hI9⟩ := hI
  obtain ⟨v, wd2, wt2, tk2, rn2, bo2, h5, h6⟩ := p_parts l G Z n0 hAZ hI9 (xs (8 * a + 1)) (xs (8 * a + 2))
  refine lv_aload_n hx hb dL_law_915 rfl (lv_at hl 1 rfl) ?_
  refine L_rd hx hb hH.1 hl (i := 1) (by omega) hL5 dL_law_916 dL_law_917 dL_law_918 (by decide +kernel) dL_law_919 dL_law_920 ?_
  refine L_rd hx hb hH.1 hl (i := 2) (by omega) hL5 dL_law_921 dL_law_922 dL_law_923 (by decide +kernel) dL_law_924 dL_law_925 ?_
  refine r5 (wd := wd) (wt := wt) (tk := tk) (rn := rn) (bo := bo) hbn hAZ hH hm6 (va_runV (As := [.int (xs (8 * a + 1)), .int (xs (8 * a + 2))]) (rest := []) hS h5 (cwV 2 hts gL_law_X5_parts rfl rfl rfl kd_X5_parts ⟨Nat.le_of_ble_eq_true rfl, Nat.le_of_ble_eq_true rfl⟩) (a_preV hK hH.2.1 hc5.1 rfl hc5) rfl rfl hl.1 rfl (lv_room (Nat.le_of_ble_eq_true rfl)) dL_law_926 ⟨hce, hsl⟩) (fun H locs hH hc5 hm6 => ?_)
  refine lv_aload_n hx hb dL_law_929 rfl (lv_at hl 2 rfl) ?_
  refine L_rd hx hb hH.1 hl (i := 1) (by omega) hL5 dL_law_930 dL_law_931 dL_law_932 (by decide +kernel) dL_law_933 dL_law_934 ?_
  refine L_rd hx hb hH.1 hl (i := 2) (by omega) hL5 dL_law_935 dL_law_936 dL_law_937 (by decide +kernel) dL_law_938 dL_law_939 ?_
  refine r6 hbn hAZ hH hc5 (va_runV (As := [.int (xs (8 * a + 1)), .int (xs (8 * a + 2))]) (rest := [.int v]) hS h6 (cwV 2 hts gL_law_X6_parts rfl rfl rfl kd_X6_parts ⟨Nat.le_of_ble_eq_true rfl, Nat.le_of_ble_eq_true rfl⟩) (a_preV hK hH.2.1 hm6.1 rfl hm6) rfl rfl hl.1 rfl (lv_room (Nat.le_of_ble_eq_true rfl)) dL_law_940 ⟨hce, hsl⟩) (fun H locs y hH hc5 hm6 hI2 => ?_)
  exact L_if_eq rfl hx hb dL_law_943 (by decide) (kk H locs ⟨hH, wd2, wt2, tk2, rn2, bo2, y, hc5, hm6, hI2⟩)
theorem kd_X5_next : yX5_next.cls = RX5 ∧ yX5_next.cls ≠ "java/lang/invoke/MethodHandle" ∧ yX5_next.cls ≠ "java/lang/invoke/VarHandle" ∧ (parseMethodDescriptor yX5_next.desc).map (fun d => d.parameters.length) = some 1 := by decide +kernel
theorem kd_X6_next : yX6_next.cls = RX6 ∧ yX6_next.cls ≠ "java/lang/invoke/MethodHandle" ∧ yX6_next.cls ≠ "java/lang/invoke/VarHandle" ∧ (parseMethodDescriptor yX6_next.desc).map (fun d => d.parameters.length) = some 1 := by decide +kernel
set_option maxHeartbeats 1000000 in
theorem k_next (hC : lawC p s m c b L n0 G Z cells slots) {a : Nat} (ha : 8 * a + 8 ≤ L) (hl : lv_has ls 4 (lwL b n0 a)) (hI : LI b L xs s G Z n0 H locs) (kk : ∀ (H : Heap) (locs : List Loc), LI b L xs s G Z n0 H locs → W p l e room_1 s m #[Value.ref b] below meth c H locs cells slots Q (F0 m 1304 ls [])) : W p l e room_1 s m #[Value.ref b] below meth c H locs cells slots Q (F0 m 948 ls []) := by
  obtain ⟨hS, hT, hbn, hK, hAZ, hL5, hce, hsl⟩ := hC
  have hx := hS.1
  have hb := hS.2.1
  have hown := hS.2.2.2.1
  have hts := hS.2.2.2.2
  obtain ⟨hH, wd, wt, tk, rn, bo, x, hc5, hm6, hI9⟩ := hI
  obtain ⟨v, wd2, wt2, tk2, rn2, bo2, h5, h6⟩ := p_next l G Z n0 hAZ hI9 (xs (8 * a + 1))
  refine lv_aload_n hx hb dL_law_948 rfl (lv_at hl 1 rfl) ?_
  refine L_rd hx hb hH.1 hl (i := 1) (by omega) hL5 dL_law_949 dL_law_950 dL_law_951 (by decide +kernel) dL_law_952 dL_law_953 ?_
  refine r5 (wd := wd) (wt := wt) (tk := tk) (rn := rn) (bo := bo) hbn hAZ hH hm6 (va_runV (As := [.int (xs (8 * a + 1))]) (rest := []) hS h5 (cwV 1 hts gL_law_X5_next rfl rfl rfl kd_X5_next ⟨Nat.le_of_ble_eq_true rfl, Nat.le_of_ble_eq_true rfl⟩) (a_preV hK hH.2.1 hc5.1 rfl hc5) rfl rfl hl.1 rfl (lv_room (Nat.le_of_ble_eq_true rfl)) dL_law_954 ⟨hce, hsl⟩) (fun H locs hH hc5 hm6 => ?_)
  refine lv_aload_n hx hb dL_law_957 rfl (lv_at hl 2 rfl) ?_
  refine L_rd hx hb hH.1 hl (i := 1) (by omega) hL5 dL_law_958 dL_law_959 dL_law_960 (by decide +kernel) dL_law_961 dL_law_962 ?_
  refine r6 hbn hAZ hH hc5 (va_runV (As := [.int (xs (8 * a + 1))]) (rest := [.int v]) hS h6 (cwV 1 hts gL_law_X6_next rfl rfl rfl kd_X6_next ⟨Nat.le_of_ble_eq_true rfl, Nat.le_of_ble_eq_true rfl⟩) (a_preV hK hH.2.1 hm6.1 rfl hm6) rfl rfl hl.1 rfl (lv_room (Nat.le_of_ble_eq_true rfl)) dL_law_963 ⟨hce, hsl⟩) (fun H locs y hH hc5 hm6 hI2 => ?_)
  exact L_if_eq rfl hx hb dL_law_966 (by decide) (kk H locs ⟨hH, wd2, wt2, tk2, rn2, bo2, y, hc5, hm6, hI2⟩)
theorem kd_X5_moves : yX5_moves.cls = RX5 ∧ yX5_moves.cls ≠ "java/lang/invoke/MethodHandle" ∧ yX5_moves.cls ≠ "java/lang/invoke/VarHandle" ∧ (parseMethodDescriptor yX5_moves.desc).map (fun d => d.parameters.length) = some 2 := by decide +kernel
theorem kd_X6_moves : yX6_moves.cls = RX6 ∧ yX6_moves.cls ≠ "java/lang/invoke/MethodHandle" ∧ yX6_moves.cls ≠ "java/lang/invoke/VarHandle" ∧ (parseMethodDescriptor yX6_moves.desc).map (fun d => d.parameters.length) = some 2 := by decide +kernel
set_option maxHeartbeats 1000000 in
theorem k_moves (hC : lawC p s m c b L n0 G Z cells slots) {a : Nat} (ha : 8 * a + 8 ≤ L) (hl : lv_has ls 4 (lwL b n0 a)) (hI : LI b L xs s G Z n0 H locs) (kk : ∀ (H : Heap) (locs : List Loc), LI b L xs s G Z n0 H locs → W p l e room_1 s m #[Value.ref b] below meth c H locs cells slots Q (F0 m 1304 ls [])) : W p l e room_1 s m #[Value.ref b] below meth c H locs cells slots Q (F0 m 971 ls []) := by
  obtain ⟨hS, hT, hbn, hK, hAZ, hL5, hce, hsl⟩ := hC
  have hx := hS.1
  have hb := hS.2.1
  have hown := hS.2.2.2.1
  have hts := hS.2.2.2.2
  obtain ⟨hH, wd, wt, tk, rn, bo, x, hc5, hm6, hI9⟩ := hI
  obtain ⟨v, wd2, wt2, tk2, rn2, bo2, h5, h6⟩ := p_moves l G Z n0 hAZ hI9 (xs (8 * a + 1)) (xs (8 * a + 2))
  refine lv_aload_n hx hb dL_law_971 rfl (lv_at hl 1 rfl) ?_
  refine L_rd hx hb hH.1 hl (i := 1) (by omega) hL5 dL_law_972 dL_law_973 dL_law_974 (by decide +kernel) dL_law_975 dL_law_976 ?_
  refine L_rd hx hb hH.1 hl (i := 2) (by omega) hL5 dL_law_977 dL_law_978 dL_law_979 (by decide +kernel) dL_law_980 dL_law_981 ?_
  refine r5 (wd := wd) (wt := wt) (tk := tk) (rn := rn) (bo := bo) hbn hAZ hH hm6 (va_runV (As := [.int (xs (8 * a + 1)), .int (xs (8 * a + 2))]) (rest := []) hS h5 (cwV 2 hts gL_law_X5_moves rfl rfl rfl kd_X5_moves ⟨Nat.le_of_ble_eq_true rfl, Nat.le_of_ble_eq_true rfl⟩) (a_preV hK hH.2.1 hc5.1 rfl hc5) rfl rfl hl.1 rfl (lv_room (Nat.le_of_ble_eq_true rfl)) dL_law_982 ⟨hce, hsl⟩) (fun H locs hH hc5 hm6 => ?_)
  refine lv_aload_n hx hb dL_law_985 rfl (lv_at hl 2 rfl) ?_
  refine L_rd hx hb hH.1 hl (i := 1) (by omega) hL5 dL_law_986 dL_law_987 dL_law_988 (by decide +kernel) dL_law_989 dL_law_990 ?_
  refine L_rd hx hb hH.1 hl (i := 2) (by omega) hL5 dL_law_991 dL_law_992 dL_law_993 (by decide +kernel) dL_law_994 dL_law_995 ?_
  refine r6 hbn hAZ hH hc5 (va_runV (As := [.int (xs (8 * a + 1)), .int (xs (8 * a + 2))]) (rest := [.long v]) hS h6 (cwV 2 hts gL_law_X6_moves rfl rfl rfl kd_X6_moves ⟨Nat.le_of_ble_eq_true rfl, Nat.le_of_ble_eq_true rfl⟩) (a_preV hK hH.2.1 hm6.1 rfl hm6) rfl rfl hl.1 rfl (lv_room (Nat.le_of_ble_eq_true rfl)) dL_law_996 ⟨hce, hsl⟩) (fun H locs y hH hc5 hm6 hI2 => ?_)
  exact L_leq hx hb dL_law_999 dL_law_1000 (by decide) (kk H locs ⟨hH, wd2, wt2, tk2, rn2, bo2, y, hc5, hm6, hI2⟩)
theorem kd_X5_fooled : yX5_fooled.cls = RX5 ∧ yX5_fooled.cls ≠ "java/lang/invoke/MethodHandle" ∧ yX5_fooled.cls ≠ "java/lang/invoke/VarHandle" ∧ (parseMethodDescriptor yX5_fooled.desc).map (fun d => d.parameters.length) = some 0 := by decide +kernel
theorem kd_X6_fooled : yX6_fooled.cls = RX6 ∧ yX6_fooled.cls ≠ "java/lang/invoke/MethodHandle" ∧ yX6_fooled.cls ≠ "java/lang/invoke/VarHandle" ∧ (parseMethodDescriptor yX6_fooled.desc).map (fun d => d.parameters.length) = some 0 := by decide +kernel
set_option maxHeartbeats 1000000 in
theorem k_fooled (hC : lawC p s m c b L n0 G Z cells slots) {a : Nat} (ha : 8 * a + 8 ≤ L) (hl : lv_has ls 4 (lwL b n0 a)) (hI : LI b L xs s G Z n0 H locs) (kk : ∀ (H : Heap) (locs : List Loc), LI b L xs s G Z n0 H locs → W p l e room_1 s m #[Value.ref b] below meth c H locs cells slots Q (F0 m 1304 ls [])) : W p l e room_1 s m #[Value.ref b] below meth c H locs cells slots Q (F0 m 1005 ls []) := by
  obtain ⟨hS, hT, hbn, hK, hAZ, hL5, hce, hsl⟩ := hC
  have hx := hS.1
  have hb := hS.2.1
  have hown := hS.2.2.2.1
  have hts := hS.2.2.2.2
  obtain ⟨hH, wd, wt, tk, rn, bo, x, hc5, hm6, hI9⟩ := hI
  obtain ⟨v, wd2, wt2, tk2, rn2, bo2, h5, h6⟩ := p_fooled l G Z n0 hAZ hI9
  refine lv_aload_n hx hb dL_law_1005 rfl (lv_at hl 1 rfl) ?_
  refine r5 (wd := wd) (wt := wt) (tk := tk) (rn := rn) (bo := bo) hbn hAZ hH hm6 (va_runV (As := []) (rest := []) hS h5 (cwV 0 hts gL_law_X5_fooled rfl rfl rfl kd_X5_fooled ⟨Nat.le_of_ble_eq_true rfl, Nat.le_of_ble_eq_true rfl⟩) (a_preV hK hH.2.1 hc5.1 rfl hc5) rfl rfl hl.1 rfl (lv_room (Nat.le_of_ble_eq_true rfl)) dL_law_1006 ⟨hce, hsl⟩) (fun H locs hH hc5 hm6 => ?_)
  refine lv_aload_n hx hb dL_law_1009 rfl (lv_at hl 2 rfl) ?_
  refine r6 hbn hAZ hH hc5 (va_runV (As := []) (rest := [.int v]) hS h6 (cwV 0 hts gL_law_X6_fooled rfl rfl rfl kd_X6_fooled ⟨Nat.le_of_ble_eq_true rfl, Nat.le_of_ble_eq_true rfl⟩) (a_preV hK hH.2.1 hm6.1 rfl hm6) rfl rfl hl.1 rfl (lv_room (Nat.le_of_ble_eq_true rfl)) dL_law_1010 ⟨hce, hsl⟩) (fun H locs y hH hc5 hm6 hI2 => ?_)
  exact L_if_eq rfl hx hb dL_law_1013 (by decide) (kk H locs ⟨hH, wd2, wt2, tk2, rn2, bo2, y, hc5, hm6, hI2⟩)
theorem kd_X5_once : yX5_once.cls = RX5 ∧ yX5_once.cls ≠ "java/lang/invoke/MethodHandle" ∧ yX5_once.cls ≠ "java/lang/invoke/VarHandle" ∧ (parseMethodDescriptor yX5_once.desc).map (fun d => d.parameters.length) = some 0 := by decide +kernel
theorem kd_X6_once : yX6_once.cls = RX6 ∧ yX6_once.cls ≠ "java/lang/invoke/MethodHandle" ∧ yX6_once.cls ≠ "java/lang/invoke/VarHandle" ∧ (parseMethodDescriptor yX6_once.desc).map (fun d => d.parameters.length) = some 0 := by decide +kernel
set_option maxHeartbeats 1000000 in
theorem k_once (hC : lawC p s m c b L n0 G Z cells slots) {a : Nat} (ha : 8 * a + 8 ≤ L) (hl : lv_has ls 4 (lwL b n0 a)) (hI : LI b L xs s G Z n0 H locs) (kk : ∀ (H : Heap) (locs : List Loc), LI b L xs s G Z n0 H locs → W p l e room_1 s m #[Value.ref b] below meth c H locs cells slots Q (F0 m 1304 ls [])) : W p l e room_1 s m #[Value.ref b] below meth c H locs cells slots Q (F0 m 1018 ls []) := by
  obtain ⟨hS, hT, hbn, hK, hAZ, hL5, hce, hsl⟩ := hC
  have hx := hS.1
  have hb := hS.2.1
  have hown := hS.2.2.2.1
  have hts := hS.2.2.2.2
  obtain ⟨hH, wd, wt, tk, rn, bo, x, hc5, hm6, hI9⟩ := hI
  obtain ⟨v, wd2, wt2, tk2, rn2, bo2, h5, h6⟩ := p_once l G Z n0 hAZ hI9
  refine lv_aload_n hx hb dL_law_1018 rfl (lv_at hl 1 rfl) ?_
  refine r5 (wd := wd) (wt := wt) (tk := tk) (rn := rn) (bo := bo) hbn hAZ hH hm6 (va_runV (As := []) (rest := []) hS h5 (cwV 0 hts gL_law_X5_once rfl rfl rfl kd_X5_once ⟨Nat.le_of_ble_eq_true rfl, Nat.le_of_ble_eq_true rfl⟩) (a_preV hK hH.2.1 hc5.1 rfl hc5) rfl rfl hl.1 rfl (lv_room (Nat.le_of_ble_eq_true rfl)) dL_law_1019 ⟨hce, hsl⟩) (fun H locs hH hc5 hm6 => ?_)
  refine lv_aload_n hx hb dL_law_1022 rfl (lv_at hl 2 rfl) ?_
  refine r6 hbn hAZ hH hc5 (va_runV (As := []) (rest := [.int v]) hS h6 (cwV 0 hts gL_law_X6_once rfl rfl rfl kd_X6_once ⟨Nat.le_of_ble_eq_true rfl, Nat.le_of_ble_eq_true rfl⟩) (a_preV hK hH.2.1 hm6.1 rfl hm6) rfl rfl hl.1 rfl (lv_room (Nat.le_of_ble_eq_true rfl)) dL_law_1023 ⟨hce, hsl⟩) (fun H locs y hH hc5 hm6 hI2 => ?_)
  exact L_if_eq rfl hx hb dL_law_1026 (by decide) (kk H locs ⟨hH, wd2, wt2, tk2, rn2, bo2, y, hc5, hm6, hI2⟩)
theorem kd_X5_order : yX5_order.cls = RX5 ∧ yX5_order.cls ≠ "java/lang/invoke/MethodHandle" ∧ yX5_order.cls ≠ "java/lang/invoke/VarHandle" ∧ (parseMethodDescriptor yX5_order.desc).map (fun d => d.parameters.length) = some 2 := by decide +kernel
theorem kd_X6_order : yX6_order.cls = RX6 ∧ yX6_order.cls ≠ "java/lang/invoke/MethodHandle" ∧ yX6_order.cls ≠ "java/lang/invoke/VarHandle" ∧ (parseMethodDescriptor yX6_order.desc).map (fun d => d.parameters.length) = some 2 := by decide +kernel
set_option maxHeartbeats 1000000 in
theorem k_order (hC : lawC p s m c b L n0 G Z cells slots) {a : Nat} (ha : 8 * a + 8 ≤ L) (hl : lv_has ls 4 (lwL b n0 a)) (hI : LI b L xs s G Z n0 H locs) (kk : ∀ (H : Heap) (locs : List Loc), LI b L xs s G Z n0 H locs → W p l e room_1 s m #[Value.ref b] below meth c H locs cells slots Q (F0 m 1304 ls [])) : W p l e room_1 s m #[Value.ref b] below meth c H locs cells slots Q (F0 m 1031 ls []) := by
  obtain ⟨hS, hT, hbn, hK, hAZ, hL5, hce, hsl⟩ := hC
  have hx := hS.1
  have hb := hS.2.1
  have hown := hS.2.2.2.1
  have hts := hS.2.2.2.2
  obtain ⟨hH, wd, wt, tk, rn, bo, x, hc5, hm6, hI9⟩ := hI
  obtain ⟨v, wd2, wt2, tk2, rn2, bo2, h5, h6⟩ := p_order l G Z n0 hAZ hI9 (xs (8 * a + 1)) (xs (8 * a + 2))
  refine lv_aload_n hx hb dL_law_1031 rfl (lv_at hl 1 rfl) ?_
  refine L_rd hx hb hH.1 hl (i := 1) (by omega) hL5 dL_law_1032 dL_law_1033 dL_law_1034 (by decide +kernel) dL_law_1035 dL_law_1036 ?_
  refine L_rd hx hb hH.1 hl (i := 2) (by omega) hL5 dL_law_1037 dL_law_1038 dL_law_1039 (by decide +kernel) dL_law_1040 dL_law_1041 ?_
  refine r5 (wd := wd) (wt := wt) (tk := tk) (rn := rn) (bo := bo) hbn hAZ hH hm6 (va_runV (As := [.int (xs (8 * a + 1)), .int (xs (8 * a + 2))]) (rest := []) hS h5 (cwV 2 hts gL_law_X5_order rfl rfl rfl kd_X5_order ⟨Nat.le_of_ble_eq_true rfl, Nat.le_of_ble_eq_true rfl⟩) (a_preV hK hH.2.1 hc5.1 rfl hc5) rfl rfl hl.1 rfl (lv_room (Nat.le_of_ble_eq_true rfl)) dL_law_1042 ⟨hce, hsl⟩) (fun H locs hH hc5 hm6 => ?_)
  refine lv_aload_n hx hb dL_law_1045 rfl (lv_at hl 2 rfl) ?_
  refine L_rd hx hb hH.1 hl (i := 1) (by omega) hL5 dL_law_1046 dL_law_1047 dL_law_1048 (by decide +kernel) dL_law_1049 dL_law_1050 ?_
  refine L_rd hx hb hH.1 hl (i := 2) (by omega) hL5 dL_law_1051 dL_law_1052 dL_law_1053 (by decide +kernel) dL_law_1054 dL_law_1055 ?_
  refine r6 hbn hAZ hH hc5 (va_runV (As := [.int (xs (8 * a + 1)), .int (xs (8 * a + 2))]) (rest := [.int v]) hS h6 (cwV 2 hts gL_law_X6_order rfl rfl rfl kd_X6_order ⟨Nat.le_of_ble_eq_true rfl, Nat.le_of_ble_eq_true rfl⟩) (a_preV hK hH.2.1 hm6.1 rfl hm6) rfl rfl hl.1 rfl (lv_room (Nat.le_of_ble_eq_true rfl)) dL_law_1056 ⟨hce, hsl⟩) (fun H locs y hH hc5 hm6 hI2 => ?_)
  exact L_if_eq rfl hx hb dL_law_1059 (by decide) (kk H locs ⟨hH, wd2, wt2, tk2, rn2, bo2, y, hc5, hm6, hI2⟩)
theorem kd_X5_from : yX5_from.cls = RX5 ∧ yX5_from.cls ≠ "java/lang/invoke/MethodHandle" ∧ yX5_from.cls ≠ "java/lang/invoke/VarHandle" ∧ (parseMethodDescriptor yX5_from.desc).map (fun d => d.parameters.length) = some 2 := by decide +kernel
theorem kd_X6_from : yX6_from.cls = RX6 ∧ yX6_from.cls ≠ "java/lang/invoke/MethodHandle" ∧ yX6_from.cls ≠ "java/lang/invoke/VarHandle" ∧ (parseMethodDescriptor yX6_from.desc).map (fun d => d.parameters.length) = some 2 := by decide +kernel
set_option maxHeartbeats 1000000 in
theorem k_from (hC : lawC p s m c b L n0 G Z cells slots) {a : Nat} (ha : 8 * a + 8 ≤ L) (hl : lv_has ls 4 (lwL b n0 a)) (hI : LI b L xs s G Z n0 H locs) (kk : ∀ (H : Heap) (locs : List Loc), LI b L xs s G Z n0 H locs → W p l e room_1 s m #[Value.ref b] below meth c H locs cells slots Q (F0 m 1304 ls [])) : W p l e room_1 s m #[Value.ref b] below meth c H locs cells slots Q (F0 m 1064 ls []) := by
  obtain ⟨hS, hT, hbn, hK, hAZ, hL5, hce, hsl⟩ := hC
  have hx := hS.1
  have hb := hS.2.1
  have hown := hS.2.2.2.1
  have hts := hS.2.2.2.2
  obtain ⟨hH, wd, wt, tk, rn, bo, x, hc5, hm6, hI9⟩ := hI
  obtain ⟨v, wd2, wt2, tk2, rn2, bo2, h5, h6⟩ := p_from l G Z n0 hAZ hI9 (xs (8 * a + 1)) (lwB (xs (8 * a + 2)))
  refine lv_aload_n hx hb dL_law_1064 rfl (lv_at hl 1 rfl) ?_
  refine L_rd hx hb hH.1 hl (i := 1) (by omega) hL5 dL_law_1065 dL_law_1066 dL_law_1067 (by decide +kernel) dL_law_1068 dL_law_1069 ?_
  refine L_rd hx hb hH.1 hl (i := 2) (by omega) hL5 dL_law_1070 dL_law_1071 dL_law_1072 (by decide +kernel) dL_law_1073 dL_law_1074 ?_
  refine L_bz hx hb dL_law_1075 dL_law_1078 dL_law_1079 dL_law_1082 ?_
  refine r5 (wd := wd) (wt := wt) (tk := tk) (rn := rn) (bo := bo) hbn hAZ hH hm6 (va_runV (As := [.int (xs (8 * a + 1)), .int (b2i (lwB (xs (8 * a + 2))))]) (rest := []) hS h5 (cwV 2 hts gL_law_X5_from rfl rfl rfl kd_X5_from ⟨Nat.le_of_ble_eq_true rfl, Nat.le_of_ble_eq_true rfl⟩) (a_preV hK hH.2.1 hc5.1 rfl hc5) rfl rfl hl.1 rfl (lv_room (Nat.le_of_ble_eq_true rfl)) dL_law_1083 ⟨hce, hsl⟩) (fun H locs hH hc5 hm6 => ?_)
  refine lv_aload_n hx hb dL_law_1086 rfl (lv_at hl 2 rfl) ?_
  refine L_rd hx hb hH.1 hl (i := 1) (by omega) hL5 dL_law_1087 dL_law_1088 dL_law_1089 (by decide +kernel) dL_law_1090 dL_law_1091 ?_
  refine L_rd hx hb hH.1 hl (i := 2) (by omega) hL5 dL_law_1092 dL_law_1093 dL_law_1094 (by decide +kernel) dL_law_1095 dL_law_1096 ?_
  refine L_bz hx hb dL_law_1097 dL_law_1100 dL_law_1101 dL_law_1104 ?_
  refine r6 hbn hAZ hH hc5 (va_runV (As := [.int (xs (8 * a + 1)), .int (b2i (lwB (xs (8 * a + 2))))]) (rest := [.int v]) hS h6 (cwV 2 hts gL_law_X6_from rfl rfl rfl kd_X6_from ⟨Nat.le_of_ble_eq_true rfl, Nat.le_of_ble_eq_true rfl⟩) (a_preV hK hH.2.1 hm6.1 rfl hm6) rfl rfl hl.1 rfl (lv_room (Nat.le_of_ble_eq_true rfl)) dL_law_1105 ⟨hce, hsl⟩) (fun H locs y hH hc5 hm6 hI2 => ?_)
  exact L_if_eq rfl hx hb dL_law_1108 (by decide) (kk H locs ⟨hH, wd2, wt2, tk2, rn2, bo2, y, hc5, hm6, hI2⟩)
theorem kd_X5_spread : yX5_spread.cls = RX5 ∧ yX5_spread.cls ≠ "java/lang/invoke/MethodHandle" ∧ yX5_spread.cls ≠ "java/lang/invoke/VarHandle" ∧ (parseMethodDescriptor yX5_spread.desc).map (fun d => d.parameters.length) = some 3 := by decide +kernel
theorem kd_X6_spread : yX6_spread.cls = RX6 ∧ yX6_spread.cls ≠ "java/lang/invoke/MethodHandle" ∧ yX6_spread.cls ≠ "java/lang/invoke/VarHandle" ∧ (parseMethodDescriptor yX6_spread.desc).map (fun d => d.parameters.length) = some 3 := by decide +kernel
set_option maxHeartbeats 1000000 in
theorem k_spread (hC : lawC p s m c b L n0 G Z cells slots) {a : Nat} (ha : 8 * a + 8 ≤ L) (hl : lv_has ls 4 (lwL b n0 a)) (hI : LI b L xs s G Z n0 H locs) (kk : ∀ (H : Heap) (locs : List Loc), LI b L xs s G Z n0 H locs → W p l e room_1 s m #[Value.ref b] below meth c H locs cells slots Q (F0 m 1304 ls [])) : W p l e room_1 s m #[Value.ref b] below meth c H locs cells slots Q (F0 m 1113 ls []) := by
  obtain ⟨hS, hT, hbn, hK, hAZ, hL5, hce, hsl⟩ := hC
  have hx := hS.1
  have hb := hS.2.1
  have hown := hS.2.2.2.1
  have hts := hS.2.2.2.2
  obtain ⟨hH, wd, wt, tk, rn, bo, x, hc5, hm6, hI9⟩ := hI
  obtain ⟨v, wd2, wt2, tk2, rn2, bo2, h5, h6⟩ := p_spread l G Z n0 hAZ hI9 (xs (8 * a + 1)) (xs (8 * a + 2)) (xs (8 * a + 3))
  refine lv_aload_n hx hb dL_law_1113 rfl (lv_at hl 1 rfl) ?_
  refine L_rd hx hb hH.1 hl (i := 1) (by omega) hL5 dL_law_1114 dL_law_1115 dL_law_1116 (by decide +kernel) dL_law_1117 dL_law_1118 ?_
  refine L_rd hx hb hH.1 hl (i := 2) (by omega) hL5 dL_law_1119 dL_law_1120 dL_law_1121 (by decide +kernel) dL_law_1122 dL_law_1123 ?_
  refine L_rd hx hb hH.1 hl (i := 3) (by omega) hL5 dL_law_1124 dL_law_1125 dL_law_1126 (by decide +kernel) dL_law_1127 dL_law_1128 ?_
  refine r5 (wd := wd) (wt := wt) (tk := tk) (rn := rn) (bo := bo) hbn hAZ hH hm6 (va_runV (As := [.int (xs (8 * a + 1)), .int (xs (8 * a + 2)), .int (xs (8 * a + 3))]) (rest := []) hS h5 (cwV 3 hts gL_law_X5_spread rfl rfl rfl kd_X5_spread ⟨Nat.le_of_ble_eq_true rfl, Nat.le_of_ble_eq_true rfl⟩) (a_preV hK hH.2.1 hc5.1 rfl hc5) rfl rfl hl.1 rfl (lv_room (Nat.le_of_ble_eq_true rfl)) dL_law_1129 ⟨hce, hsl⟩) (fun H locs hH hc5 hm6 => ?_)
  refine lv_aload_n hx hb dL_law_1132 rfl (lv_at hl 2 rfl) ?_
  refine L_rd hx hb hH.1 hl (i := 1) (by omega) hL5 dL_law_1133 dL_law_1134 dL_law_1135 (by decide +kernel) dL_law_1136 dL_law_1137 ?_
  refine L_rd hx hb hH.1 hl (i := 2) (by omega) hL5 dL_law_1138 dL_law_1139 dL_law_1140 (by decide +kernel) dL_law_1141 dL_law_1142 ?_
  refine L_rd hx hb hH.1 hl (i := 3) (by omega) hL5 dL_law_1143 dL_law_1144 dL_law_1145 (by decide +kernel) dL_law_1146 dL_law_1147 ?_
  refine r6 hbn hAZ hH hc5 (va_runV (As := [.int (xs (8 * a + 1)), .int (xs (8 * a + 2)), .int (xs (8 * a + 3))]) (rest := [.int v]) hS h6 (cwV 3 hts gL_law_X6_spread rfl rfl rfl kd_X6_spread ⟨Nat.le_of_ble_eq_true rfl, Nat.le_of_ble_eq_true rfl⟩) (a_preV hK hH.2.1 hm6.1 rfl hm6) rfl rfl hl.1 rfl (lv_room (Nat.le_of_ble_eq_true rfl)) dL_law_1148 ⟨hce, hsl⟩) (fun H locs y hH hc5 hm6 hI2 => ?_)
  exact L_if_eq rfl hx hb dL_law_1151 (by decide) (kk H locs ⟨hH, wd2, wt2, tk2, rn2, bo2, y, hc5, hm6, hI2⟩)
theorem kd_X5_act : yX5_act.cls = RX5 ∧ yX5_act.cls ≠ "java/lang/invoke/MethodHandle" ∧ yX5_act.cls ≠ "java/lang/invoke/VarHandle" ∧ (parseMethodDescriptor yX5_act.desc).map (fun d => d.parameters.length) = some 3 := by decide +kernel
theorem kd_X6_act : yX6_act.cls = RX6 ∧ yX6_act.cls ≠ "java/lang/invoke/MethodHandle" ∧ yX6_act.cls ≠ "java/lang/invoke/VarHandle" ∧ (parseMethodDescriptor yX6_act.desc).map (fun d => d.parameters.length) = some 3 := by decide +kernel
set_option maxHeartbeats 1000000 in
theorem k_act (hC : lawC p s m c b L n0 G Z cells slots) {a : Nat} (ha : 8 * a + 8 ≤ L) (hl : lv_has ls 4 (lwL b n0 a)) (hI : LI b L xs s G Z n0 H locs) (kk : ∀ (H : Heap) (locs : List Loc), LI b L xs s G Z n0 H locs → W p l e room_1 s m #[Value.ref b] below meth c H locs cells slots Q (F0 m 1304 ls [])) : W p l e room_1 s m #[Value.ref b] below meth c H locs cells slots Q (F0 m 1156 ls []) := by
  obtain ⟨hS, hT, hbn, hK, hAZ, hL5, hce, hsl⟩ := hC
  have hx := hS.1
  have hb := hS.2.1
  have hown := hS.2.2.2.1
  have hts := hS.2.2.2.2
  obtain ⟨hH, wd, wt, tk, rn, bo, x, hc5, hm6, hI9⟩ := hI
  obtain ⟨v, wd2, wt2, tk2, rn2, bo2, h5, h6⟩ := p_act l G Z n0 hAZ hI9 (xs (8 * a + 1)) (xs (8 * a + 2)) (xs (8 * a + 3))
  refine lv_aload_n hx hb dL_law_1156 rfl (lv_at hl 1 rfl) ?_
  refine L_rd hx hb hH.1 hl (i := 1) (by omega) hL5 dL_law_1157 dL_law_1158 dL_law_1159 (by decide +kernel) dL_law_1160 dL_law_1161 ?_
  refine L_rd hx hb hH.1 hl (i := 2) (by omega) hL5 dL_law_1162 dL_law_1163 dL_law_1164 (by decide +kernel) dL_law_1165 dL_law_1166 ?_
  refine L_rd hx hb hH.1 hl (i := 3) (by omega) hL5 dL_law_1167 dL_law_1168 dL_law_1169 (by decide +kernel) dL_law_1170 dL_law_1171 ?_
  refine r5 (wd := wd) (wt := wt) (tk := tk) (rn := rn) (bo := bo) hbn hAZ hH hm6 (va_runV (As := [.int (xs (8 * a + 1)), .int (xs (8 * a + 2)), .int (xs (8 * a + 3))]) (rest := []) hS h5 (cwV 3 hts gL_law_X5_act rfl rfl rfl kd_X5_act ⟨Nat.le_of_ble_eq_true rfl, Nat.le_of_ble_eq_true rfl⟩) (a_preV hK hH.2.1 hc5.1 rfl hc5) rfl rfl hl.1 rfl (lv_room (Nat.le_of_ble_eq_true rfl)) dL_law_1172 ⟨hce, hsl⟩) (fun H locs hH hc5 hm6 => ?_)
  refine lv_aload_n hx hb dL_law_1175 rfl (lv_at hl 2 rfl) ?_
  refine L_rd hx hb hH.1 hl (i := 1) (by omega) hL5 dL_law_1176 dL_law_1177 dL_law_1178 (by decide +kernel) dL_law_1179 dL_law_1180 ?_
  refine L_rd hx hb hH.1 hl (i := 2) (by omega) hL5 dL_law_1181 dL_law_1182 dL_law_1183 (by decide +kernel) dL_law_1184 dL_law_1185 ?_
  refine L_rd hx hb hH.1 hl (i := 3) (by omega) hL5 dL_law_1186 dL_law_1187 dL_law_1188 (by decide +kernel) dL_law_1189 dL_law_1190 ?_
  refine r6 hbn hAZ hH hc5 (va_runV (As := [.int (xs (8 * a + 1)), .int (xs (8 * a + 2)), .int (xs (8 * a + 3))]) (rest := [.int v]) hS h6 (cwV 3 hts gL_law_X6_act rfl rfl rfl kd_X6_act ⟨Nat.le_of_ble_eq_true rfl, Nat.le_of_ble_eq_true rfl⟩) (a_preV hK hH.2.1 hm6.1 rfl hm6) rfl rfl hl.1 rfl (lv_room (Nat.le_of_ble_eq_true rfl)) dL_law_1191 ⟨hce, hsl⟩) (fun H locs y hH hc5 hm6 hI2 => ?_)
  exact L_if_eq rfl hx hb dL_law_1194 (by decide) (kk H locs ⟨hH, wd2, wt2, tk2, rn2, bo2, y, hc5, hm6, hI2⟩)
theorem kd_X5_trace : yX5_trace.cls = RX5 ∧ yX5_trace.cls ≠ "java/lang/invoke/MethodHandle" ∧ yX5_trace.cls ≠ "java/lang/invoke/VarHandle" ∧ (parseMethodDescriptor yX5_trace.desc).map (fun d => d.parameters.length) = some 1 := by decide +kernel
theorem kd_X6_trace : yX6_trace.cls = RX6 ∧ yX6_trace.cls ≠ "java/lang/invoke/MethodHandle" ∧ yX6_trace.cls ≠ "java/lang/invoke/VarHandle" ∧ (parseMethodDescriptor yX6_trace.desc).map (fun d => d.parameters.length) = some 1 := by decide +kernel
set_option maxHeartbeats 1000000 in
theorem k_trace (hC : lawC p s m c b L n0 G Z cells slots) {a : Nat} (ha : 8 * a + 8 ≤ L) (hl : lv_has ls 4 (lwL b n0 a)) (hI : LI b L xs s G Z n0 H locs) (kk : ∀ (H : Heap) (locs : List Loc), LI b L xs s G Z n0 H locs → W p l e room_1 s m #[Value.ref b] below meth c H locs cells slots Q (F0 m 1304 ls [])) : W p l e room_1 s m #[Value.ref b] below meth c H locs cells slots Q (F0 m 1199 ls []) := by
  obtain ⟨hS, hT, hbn, hK, hAZ, hL5, hce, hsl⟩ := hC
  have hx := hS.1
  have hb := hS.2.1
  have hown := hS.2.2.2.1
  have hts := hS.2.2.2.2
  obtain ⟨hH, wd, wt, tk, rn, bo, x, hc5, hm6, hI9⟩ := hI
  obtain ⟨v, wd2, wt2, tk2, rn2, bo2, h5, h6⟩ := p_trace l G Z n0 hAZ hI9 (xs (8 * a + 1))
  refine lv_aload_n hx hb dL_law_1199 rfl (lv_at hl 1 rfl) ?_
  refine L_rd hx hb hH.1 hl (i := 1) (by omega) hL5 dL_law_1200 dL_law_1201 dL_law_1202 (by decide +kernel) dL_law_1203 dL_law_1204 ?_
  refine r5 (wd := wd) (wt := wt) (tk := tk) (rn := rn) (bo := bo) hbn hAZ hH hm6 (va_runV (As := [.int (xs (8 * a + 1))]) (rest := []) hS h5 (cwV 1 hts gL_law_X5_trace rfl rfl rfl kd_X5_trace ⟨Nat.le_of_ble_eq_true rfl, Nat.le_of_ble_eq_true rfl⟩) (a_preV hK hH.2.1 hc5.1 rfl hc5) rfl rfl hl.1 rfl (lv_room (Nat.le_of_ble_eq_true rfl)) dL_law_1205 ⟨hce, hsl⟩) (fun H locs hH hc5 hm6 => ?_)
  refine lv_aload_n hx hb dL_law_1208 rfl (lv_at hl 2 rfl) ?_
  refine L_rd hx hb hH.1 hl (i := 1) (by omega) hL5 dL_law_1209 dL_law_1210 dL_law_1211 (by decide +kernel) dL_law_1212 dL_law_1213 ?_
  refine r6 hbn hAZ hH hc5 (va_runV (As := [.int (xs (8 * a + 1))]) (rest := [.int v]) hS h6 (cwV 1 hts gL_law_X6_trace rfl rfl rfl kd_X6_trace ⟨Nat.le_of_ble_eq_true rfl, Nat.le_of_ble_eq_true rfl⟩) (a_preV hK hH.2.1 hm6.1 rfl hm6) rfl rfl hl.1 rfl (lv_room (Nat.le_of_ble_eq_true rfl)) dL_law_1214 ⟨hce, hsl⟩) (fun H locs y hH hc5 hm6 hI2 => ?_)
  exact L_if_eq rfl hx hb dL_law_1217 (by decide) (kk H locs ⟨hH, wd2, wt2, tk2, rn2, bo2, y, hc5, hm6, hI2⟩)
theorem kd_X5_as : yX5_as.cls = RX5 ∧ yX5_as.cls ≠ "java/lang/invoke/MethodHandle" ∧ yX5_as.cls ≠ "java/lang/invoke/VarHandle" ∧ (parseMethodDescriptor yX5_as.desc).map (fun d => d.parameters.length) = some 2 := by decide +kernel
theorem kd_X6_as : yX6_as.cls = RX6 ∧ yX6_as.cls ≠ "java/lang/invoke/MethodHandle" ∧ yX6_as.cls ≠ "java/lang/invoke/VarHandle" ∧ (parseMethodDescriptor yX6_as.desc).map (fun d => d.parameters.length) = some 2 := by decide +kernel
set_option maxHeartbeats 1000000 in
theorem k_as (hC : lawC p s m c b L n0 G Z cells slots) {a : Nat} (ha : 8 * a + 8 ≤ L) (hl : lv_has ls 4 (lwL b n0 a)) (hI : LI b L xs s G Z n0 H locs) (kk : ∀ (H : Heap) (locs : List Loc), LI b L xs s G Z n0 H locs → W p l e room_1 s m #[Value.ref b] below meth c H locs cells slots Q (F0 m 1304 ls [])) : W p l e room_1 s m #[Value.ref b] below meth c H locs cells slots Q (F0 m 1222 ls []) := by
  obtain ⟨hS, hT, hbn, hK, hAZ, hL5, hce, hsl⟩ := hC
  have hx := hS.1
  have hb := hS.2.1
  have hown := hS.2.2.2.1
  have hts := hS.2.2.2.2
  obtain ⟨hH, wd, wt, tk, rn, bo, x, hc5, hm6, hI9⟩ := hI
  obtain ⟨v, wd2, wt2, tk2, rn2, bo2, h5, h6⟩ := p_as l G Z n0 hAZ hI9 (xs (8 * a + 1)) (xs (8 * a + 2))
  refine lv_aload_n hx hb dL_law_1222 rfl (lv_at hl 1 rfl) ?_
  refine L_rd hx hb hH.1 hl (i := 1) (by omega) hL5 dL_law_1223 dL_law_1224 dL_law_1225 (by decide +kernel) dL_law_1226 dL_law_1227 ?_
  refine L_rd hx hb hH.1 hl (i := 2) (by omega) hL5 dL_law_1228 dL_law_1229 dL_law_1230 (by decide +kernel) dL_law_1231 dL_law_1232 ?_
  refine r5 (wd := wd) (wt := wt) (tk := tk) (rn := rn) (bo := bo) hbn hAZ hH hm6 (va_runV (As := [.int (xs (8 * a + 1)), .int (xs (8 * a + 2))]) (rest := []) hS h5 (cwV 2 hts gL_law_X5_as rfl rfl rfl kd_X5_as ⟨Nat.le_of_ble_eq_true rfl, Nat.le_of_ble_eq_true rfl⟩) (a_preV hK hH.2.1 hc5.1 rfl hc5) rfl rfl hl.1 rfl (lv_room (Nat.le_of_ble_eq_true rfl)) dL_law_1233 ⟨hce, hsl⟩) (fun H locs hH hc5 hm6 => ?_)
  refine lv_aload_n hx hb dL_law_1236 rfl (lv_at hl 2 rfl) ?_
  refine L_rd hx hb hH.1 hl (i := 1) (by omega) hL5 dL_law_1237 dL_law_1238 dL_law_1239 (by decide +kernel) dL_law_1240 dL_law_1241 ?_
  refine L_rd hx hb hH.1 hl (i := 2) (by omega) hL5 dL_law_1242 dL_law_1243 dL_law_1244 (by decide +kernel) dL_law_1245 dL_law_1246 ?_
  refine r6 hbn hAZ hH hc5 (va_runV (As := [.int (xs (8 * a + 1)), .int (xs (8 * a + 2))]) (rest := [.int v]) hS h6 (cwV 2 hts gL_law_X6_as rfl rfl rfl kd_X6_as ⟨Nat.le_of_ble_eq_true rfl, Nat.le_of_ble_eq_true rfl⟩) (a_preV hK hH.2.1 hm6.1 rfl hm6) rfl rfl hl.1 rfl (lv_room (Nat.le_of_ble_eq_true rfl)) dL_law_1247 ⟨hce, hsl⟩) (fun H locs y hH hc5 hm6 hI2 => ?_)
  exact L_if_eq rfl hx hb dL_law_1250 (by decide) (kk H locs ⟨hH, wd2, wt2, tk2, rn2, bo2, y, hc5, hm6, hI2⟩)
theorem kd_X5_image : yX5_image.cls = RX5 ∧ yX5_image.cls ≠ "java/lang/invoke/MethodHandle" ∧ yX5_image.cls ≠ "java/lang/invoke/VarHandle" ∧ (parseMethodDescriptor yX5_image.desc).map (fun d => d.parameters.length) = some 0 := by decide +kernel
theorem kd_X6_image : yX6_image.cls = RX6 ∧ yX6_image.cls ≠ "java/lang/invoke/MethodHandle" ∧ yX6_image.cls ≠ "java/lang/invoke/VarHandle" ∧ (parseMethodDescriptor yX6_image.desc).map (fun d => d.parameters.length) = some 0 := by decide +kernel
set_option maxHeartbeats 1000000 in
theorem k_image (hC : lawC p s m c b L n0 G Z cells slots) {a : Nat} (ha : 8 * a + 8 ≤ L) (hl : lv_has ls 4 (lwL b n0 a)) (hI : LI b L xs s G Z n0 H locs) (kk : ∀ (H : Heap) (locs : List Loc), LI b L xs s G Z n0 H locs → W p l e room_1 s m #[Value.ref b] below meth c H locs cells slots Q (F0 m 1304 ls [])) : W p l e room_1 s m #[Value.ref b] below meth c H locs cells slots Q (F0 m 1255 ls []) := by
  obtain ⟨hS, hT, hbn, hK, hAZ, hL5, hce, hsl⟩ := hC
  have hx := hS.1
  have hb := hS.2.1
  have hown := hS.2.2.2.1
  have hts := hS.2.2.2.2
  obtain ⟨hH, wd, wt, tk, rn, bo, x, hc5, hm6, hI9⟩ := hI
  obtain ⟨v, wd2, wt2, tk2, rn2, bo2, h5, h6⟩ := p_image l G Z n0 hAZ hI9
  refine lv_aload_n hx hb dL_law_1255 rfl (lv_at hl 1 rfl) ?_
  refine r5 (wd := wd) (wt := wt) (tk := tk) (rn := rn) (bo := bo) hbn hAZ hH hm6 (va_runV (As := []) (rest := []) hS h5 (cwV 0 hts gL_law_X5_image rfl rfl rfl kd_X5_image ⟨Nat.le_of_ble_eq_true rfl, Nat.le_of_ble_eq_true rfl⟩) (a_preV hK hH.2.1 hc5.1 rfl hc5) rfl rfl hl.1 rfl (lv_room (Nat.le_of_ble_eq_true rfl)) dL_law_1256 ⟨hce, hsl⟩) (fun H locs hH hc5 hm6 => ?_)
  refine lv_aload_n hx hb dL_law_1259 rfl (lv_at hl 2 rfl) ?_
  refine r6 hbn hAZ hH hc5 (va_runV (As := []) (rest := [.int v]) hS h6 (cwV 0 hts gL_law_X6_image rfl rfl rfl kd_X6_image ⟨Nat.le_of_ble_eq_true rfl, Nat.le_of_ble_eq_true rfl⟩) (a_preV hK hH.2.1 hm6.1 rfl hm6) rfl rfl hl.1 rfl (lv_room (Nat.le_of_ble_eq_true rfl)) dL_law_1260 ⟨hce, hsl⟩) (fun H locs y hH hc5 hm6 hI2 => ?_)
  exact L_if_eq rfl hx hb dL_law_1263 (by decide) (kk H locs ⟨hH, wd2, wt2, tk2, rn2, bo2, y, hc5, hm6, hI2⟩)
theorem kd_X5_undo : yX5_undo.cls = RX5 ∧ yX5_undo.cls ≠ "java/lang/invoke/MethodHandle" ∧ yX5_undo.cls ≠ "java/lang/invoke/VarHandle" ∧ (parseMethodDescriptor yX5_undo.desc).map (fun d => d.parameters.length) = some 0 := by decide +kernel
theorem kd_X6_undo : yX6_undo.cls = RX6 ∧ yX6_undo.cls ≠ "java/lang/invoke/MethodHandle" ∧ yX6_undo.cls ≠ "java/lang/invoke/VarHandle" ∧ (parseMethodDescriptor yX6_undo.desc).map (fun d => d.parameters.length) = some 0 := by decide +kernel
set_option maxHeartbeats 1000000 in
theorem k_undo (hC : lawC p s m c b L n0 G Z cells slots) {a : Nat} (ha : 8 * a + 8 ≤ L) (hl : lv_has ls 4 (lwL b n0 a)) (hI : LI b L xs s G Z n0 H locs) (kk : ∀ (H : Heap) (locs : List Loc), LI b L xs s G Z n0 H locs → W p l e room_1 s m #[Value.ref b] below meth c H locs cells slots Q (F0 m 1304 ls [])) : W p l e room_1 s m #[Value.ref b] below meth c H locs cells slots Q (F0 m 1268 ls []) := by
  obtain ⟨hS, hT, hbn, hK, hAZ, hL5, hce, hsl⟩ := hC
  have hx := hS.1
  have hb := hS.2.1
  have hown := hS.2.2.2.1
  have hts := hS.2.2.2.2
  obtain ⟨hH, wd, wt, tk, rn, bo, x, hc5, hm6, hI9⟩ := hI
  obtain ⟨v, wd2, wt2, tk2, rn2, bo2, h5, h6⟩ := p_undo l G Z n0 hAZ hI9
  refine lv_aload_n hx hb dL_law_1268 rfl (lv_at hl 1 rfl) ?_
  refine r5 (wd := wd) (wt := wt) (tk := tk) (rn := rn) (bo := bo) hbn hAZ hH hm6 (va_runV (As := []) (rest := []) hS h5 (cwV 0 hts gL_law_X5_undo rfl rfl rfl kd_X5_undo ⟨Nat.le_of_ble_eq_true rfl, Nat.le_of_ble_eq_true rfl⟩) (a_preV hK hH.2.1 hc5.1 rfl hc5) rfl rfl hl.1 rfl (lv_room (Nat.le_of_ble_eq_true rfl)) dL_law_1269 ⟨hce, hsl⟩) (fun H locs hH hc5 hm6 => ?_)
  refine lv_aload_n hx hb dL_law_1272 rfl (lv_at hl 2 rfl) ?_
  refine r6 hbn hAZ hH hc5 (va_runV (As := []) (rest := [.int v]) hS h6 (cwV 0 hts gL_law_X6_undo rfl rfl rfl kd_X6_undo ⟨Nat.le_of_ble_eq_true rfl, Nat.le_of_ble_eq_true rfl⟩) (a_preV hK hH.2.1 hm6.1 rfl hm6) rfl rfl hl.1 rfl (lv_room (Nat.le_of_ble_eq_true rfl)) dL_law_1273 ⟨hce, hsl⟩) (fun H locs y hH hc5 hm6 hI2 => ?_)
  exact L_if_eq rfl hx hb dL_law_1276 (by decide) (kk H locs ⟨hH, wd2, wt2, tk2, rn2, bo2, y, hc5, hm6, hI2⟩)
theorem kd_X5_count : yX5_count.cls = RX5 ∧ yX5_count.cls ≠ "java/lang/invoke/MethodHandle" ∧ yX5_count.cls ≠ "java/lang/invoke/VarHandle" ∧ (parseMethodDescriptor yX5_count.desc).map (fun d => d.parameters.length) = some 1 := by decide +kernel
theorem kd_X6_count : yX6_count.cls = RX6 ∧ yX6_count.cls ≠ "java/lang/invoke/MethodHandle" ∧ yX6_count.cls ≠ "java/lang/invoke/VarHandle" ∧ (parseMethodDescriptor yX6_count.desc).map (fun d => d.parameters.length) = some 1 := by decide +kernel
set_option maxHeartbeats 1000000 in
theorem k_count (hC : lawC p s m c b L n0 G Z cells slots) {a : Nat} (ha : 8 * a + 8 ≤ L) (hl : lv_has ls 4 (lwL b n0 a)) (hI : LI b L xs s G Z n0 H locs) (kk : ∀ (H : Heap) (locs : List Loc), LI b L xs s G Z n0 H locs → W p l e room_1 s m #[Value.ref b] below meth c H locs cells slots Q (F0 m 1304 ls [])) : W p l e room_1 s m #[Value.ref b] below meth c H locs cells slots Q (F0 m 1281 ls []) := by
  obtain ⟨hS, hT, hbn, hK, hAZ, hL5, hce, hsl⟩ := hC
  have hx := hS.1
  have hb := hS.2.1
  have hown := hS.2.2.2.1
  have hts := hS.2.2.2.2
  obtain ⟨hH, wd, wt, tk, rn, bo, x, hc5, hm6, hI9⟩ := hI
  obtain ⟨v, wd2, wt2, tk2, rn2, bo2, h5, h6⟩ := p_count l G Z n0 hAZ hI9 (xs (8 * a + 1))
  refine lv_aload_n hx hb dL_law_1281 rfl (lv_at hl 1 rfl) ?_
  refine L_rd hx hb hH.1 hl (i := 1) (by omega) hL5 dL_law_1282 dL_law_1283 dL_law_1284 (by decide +kernel) dL_law_1285 dL_law_1286 ?_
  refine r5 (wd := wd) (wt := wt) (tk := tk) (rn := rn) (bo := bo) hbn hAZ hH hm6 (va_runV (As := [.int (xs (8 * a + 1))]) (rest := []) hS h5 (cwV 1 hts gL_law_X5_count rfl rfl rfl kd_X5_count ⟨Nat.le_of_ble_eq_true rfl, Nat.le_of_ble_eq_true rfl⟩) (a_preV hK hH.2.1 hc5.1 rfl hc5) rfl rfl hl.1 rfl (lv_room (Nat.le_of_ble_eq_true rfl)) dL_law_1287 ⟨hce, hsl⟩) (fun H locs hH hc5 hm6 => ?_)
  refine lv_aload_n hx hb dL_law_1290 rfl (lv_at hl 2 rfl) ?_
  refine L_rd hx hb hH.1 hl (i := 1) (by omega) hL5 dL_law_1291 dL_law_1292 dL_law_1293 (by decide +kernel) dL_law_1294 dL_law_1295 ?_
  refine r6 hbn hAZ hH hc5 (va_runV (As := [.int (xs (8 * a + 1))]) (rest := [.int v]) hS h6 (cwV 1 hts gL_law_X6_count rfl rfl rfl kd_X6_count ⟨Nat.le_of_ble_eq_true rfl, Nat.le_of_ble_eq_true rfl⟩) (a_preV hK hH.2.1 hm6.1 rfl hm6) rfl rfl hl.1 rfl (lv_room (Nat.le_of_ble_eq_true rfl)) dL_law_1296 ⟨hce, hsl⟩) (fun H locs y hH hc5 hm6 hI2 => ?_)
  exact L_if_eq rfl hx hb dL_law_1299 (by decide) (kk H locs ⟨hH, wd2, wt2, tk2, rn2, bo2, y, hc5, hm6, hI2⟩)
theorem sw_rng (x : Int32) : 0 ≤ (x &&& 63).toInt ∧ (x &&& 63).toInt ≤ 63 := by
  have h : (x.toBitVec &&& 63#32).toNat ≤ 63 := by rw [BitVec.toNat_and]; exact Nat.and_le_right
  show 0 ≤ (x.toBitVec &&& 63#32).toInt ∧ (x.toBitVec &&& 63#32).toInt ≤ 63
  rw [BitVec.toInt_eq_toNat_of_lt (by omega)]
  omega
set_option maxHeartbeats 2000000 in
theorem k_word (hC : lawC p s m c b L n0 G Z cells slots) {a : Nat} (ha : 8 * a + 8 ≤ L) (hl : lv_has ls 4 (lwL b n0 a)) (hI : LI b L xs s G Z n0 H locs) (kk : ∀ (H : Heap) (locs : List Loc), LI b L xs s G Z n0 H locs → W p l e room_1 s m #[Value.ref b] below meth c H locs cells slots Q (F0 m 1304 ls [])) : W p l e room_1 s m #[Value.ref b] below meth c H locs cells slots Q (F0 m 27 ls []) := by
  have hx := hC.1.1
  have hb := hC.1.2.1
  refine lv_aload_n hx hb dL_law_27 rfl (lv_at hl 0 rfl) ?_
  refine lv_iload_n hx hb dL_law_28 rfl (lv_at hl 3 rfl) ?_
  refine L_ld hx hb hI.1.1 (vp_in_nI (show 8 * a < L by omega) (by have := hC.2.2.2.2.2.1; omega)) dL_law_29 ?_
  refine lv_bipush (v := 63) hx hb dL_law_30 (by decide +kernel) ?_
  refine lv_iand hx hb dL_law_32 ?_
  have hr := sw_rng (xs (nI (8 * a)).toNatClampNeg)
  generalize (xs (nI (8 * a)).toNatClampNeg) &&& 63 = w at hr ⊢
  rcases Int.lt_or_le 32 w.toInt with h | h
  · exact lv_tableOut (tgt := 1304) hx hb dL_law_33 (Or.inr h) (by decide) (kk H locs hI)
  · obtain ⟨n, hn⟩ := Int.eq_ofNat_of_zero_le hr.1
    have h2 : n ≤ 32 := by omega
    match n, hn, h2 with
    | 0, hn, _ => exact lv_tableIn (off := 147) (tgt := 180) hx hb dL_law_33 (by omega) (by omega) (by rw [hn]; rfl) (by decide) (k_child hC ha hl hI kk)
    | 1, hn, _ => exact lv_tableIn (off := 170) (tgt := 203) hx hb dL_law_33 (by omega) (by omega) (by rw [hn]; rfl) (by decide) (k_age hC ha hl hI kk)
    | 2, hn, _ => exact lv_tableIn (off := 193) (tgt := 226) hx hb dL_law_33 (by omega) (by omega) (by rw [hn]; rfl) (by decide) (k_grow hC ha hl hI kk)
    | 3, hn, _ => exact lv_tableIn (off := 216) (tgt := 249) hx hb dL_law_33 (by omega) (by omega) (by rw [hn]; rfl) (by decide) (k_asking hC ha hl hI kk)
    | 4, hn, _ => exact lv_tableIn (off := 319) (tgt := 352) hx hb dL_law_33 (by omega) (by omega) (by rw [hn]; rfl) (by decide) (k_of hC ha hl hI kk)
    | 5, hn, _ => exact lv_tableIn (off := 352) (tgt := 385) hx hb dL_law_33 (by omega) (by omega) (by rw [hn]; rfl) (by decide) (k_answer hC ha hl hI kk)
    | 6, hn, _ => exact lv_tableIn (off := 421) (tgt := 454) hx hb dL_law_33 (by omega) (by omega) (by rw [hn]; rfl) (by decide) (k_answered hC ha hl hI kk)
    | 7, hn, _ => exact lv_tableIn (off := 454) (tgt := 487) hx hb dL_law_33 (by omega) (by omega) (by rw [hn]; rfl) (by decide) (k_teach hC ha hl hI kk)
    | 8, hn, _ => exact lv_tableIn (off := 487) (tgt := 520) hx hb dL_law_33 (by omega) (by omega) (by rw [hn]; rfl) (by decide) (k_feed hC ha hl hI kk)
    | 9, hn, _ => exact lv_tableIn (off := 550) (tgt := 583) hx hb dL_law_33 (by omega) (by omega) (by rw [hn]; rfl) (by decide) (k_law hC ha hl hI kk)
    | 10, hn, _ => exact lv_tableIn (off := 583) (tgt := 616) hx hb dL_law_33 (by omega) (by omega) (by rw [hn]; rfl) (by decide) (k_told hC ha hl hI kk)
    | 11, hn, _ => exact lv_tableIn (off := 616) (tgt := 649) hx hb dL_law_33 (by omega) (by omega) (by rw [hn]; rfl) (by decide) (k_keeps hC ha hl hI kk)
    | 12, hn, _ => exact lv_tableIn (off := 659) (tgt := 692) hx hb dL_law_33 (by omega) (by omega) (by rw [hn]; rfl) (by decide) (k_tells hC ha hl hI kk)
    | 13, hn, _ => exact lv_tableIn (off := 702) (tgt := 735) hx hb dL_law_33 (by omega) (by omega) (by rw [hn]; rfl) (by decide) (k_chance hC ha hl hI kk)
    | 14, hn, _ => exact lv_tableIn (off := 746) (tgt := 779) hx hb dL_law_33 (by omega) (by omega) (by rw [hn]; rfl) (by decide) (k_odds hC ha hl hI kk)
    | 15, hn, _ => exact lv_tableIn (off := 790) (tgt := 823) hx hb dL_law_33 (by omega) (by omega) (by rw [hn]; rfl) (by decide) (k_cannot hC ha hl hI kk)
    | 16, hn, _ => exact lv_tableIn (off := 813) (tgt := 846) hx hb dL_law_33 (by omega) (by omega) (by rw [hn]; rfl) (by decide) (k_right hC ha hl hI kk)
    | 17, hn, _ => exact lv_tableIn (off := 836) (tgt := 869) hx hb dL_law_33 (by omega) (by omega) (by rw [hn]; rfl) (by decide) (k_likeliest hC ha hl hI kk)
    | 18, hn, _ => exact lv_tableIn (off := 859) (tgt := 892) hx hb dL_law_33 (by omega) (by omega) (by rw [hn]; rfl) (by decide) (k_rule hC ha hl hI kk)
    | 19, hn, _ => exact lv_tableIn (off := 882) (tgt := 915) hx hb dL_law_33 (by omega) (by omega) (by rw [hn]; rfl) (by decide) (k_parts hC ha hl hI kk)
    | 20, hn, _ => exact lv_tableIn (off := 915) (tgt := 948) hx hb dL_law_33 (by omega) (by omega) (by rw [hn]; rfl) (by decide) (k_next hC ha hl hI kk)
    | 21, hn, _ => exact lv_tableIn (off := 938) (tgt := 971) hx hb dL_law_33 (by omega) (by omega) (by rw [hn]; rfl) (by decide) (k_moves hC ha hl hI kk)
    | 22, hn, _ => exact lv_tableIn (off := 972) (tgt := 1005) hx hb dL_law_33 (by omega) (by omega) (by rw [hn]; rfl) (by decide) (k_fooled hC ha hl hI kk)
    | 23, hn, _ => exact lv_tableIn (off := 985) (tgt := 1018) hx hb dL_law_33 (by omega) (by omega) (by rw [hn]; rfl) (by decide) (k_once hC ha hl hI kk)
    | 24, hn, _ => exact lv_tableIn (off := 998) (tgt := 1031) hx hb dL_law_33 (by omega) (by omega) (by rw [hn]; rfl) (by decide) (k_order hC ha hl hI kk)
    | 25, hn, _ => exact lv_tableIn (off := 1031) (tgt := 1064) hx hb dL_law_33 (by omega) (by omega) (by rw [hn]; rfl) (by decide) (k_from hC ha hl hI kk)
    | 26, hn, _ => exact lv_tableIn (off := 1080) (tgt := 1113) hx hb dL_law_33 (by omega) (by omega) (by rw [hn]; rfl) (by decide) (k_spread hC ha hl hI kk)
    | 27, hn, _ => exact lv_tableIn (off := 1123) (tgt := 1156) hx hb dL_law_33 (by omega) (by omega) (by rw [hn]; rfl) (by decide) (k_act hC ha hl hI kk)
    | 28, hn, _ => exact lv_tableIn (off := 1166) (tgt := 1199) hx hb dL_law_33 (by omega) (by omega) (by rw [hn]; rfl) (by decide) (k_trace hC ha hl hI kk)
    | 29, hn, _ => exact lv_tableIn (off := 1189) (tgt := 1222) hx hb dL_law_33 (by omega) (by omega) (by rw [hn]; rfl) (by decide) (k_as hC ha hl hI kk)
    | 30, hn, _ => exact lv_tableIn (off := 1222) (tgt := 1255) hx hb dL_law_33 (by omega) (by omega) (by rw [hn]; rfl) (by decide) (k_image hC ha hl hI kk)
    | 31, hn, _ => exact lv_tableIn (off := 1235) (tgt := 1268) hx hb dL_law_33 (by omega) (by omega) (by rw [hn]; rfl) (by decide) (k_undo hC ha hl hI kk)
    | 32, hn, _ => exact lv_tableIn (off := 1248) (tgt := 1281) hx hb dL_law_33 (by omega) (by omega) (by rw [hn]; rfl) (by decide) (k_count hC ha hl hI kk)
    | n + 33, _, h2 => exact absurd h2 (by omega)
/-- the loop, and the end -/
theorem L_loop (hC : lawC p s m c b L n0 G Z cells slots) (hn0 : n0 = s.heap.size) (hr : meth.sig.returnType = ret) (hlocks : meth.locks = false) (hl : lv_has ls 4 (lwL b n0 0)) (hI : LI b L xs s G Z n0 H locs) (kr : ∀ (H : Heap) (ls : Array Slot), W p l e room_1 s m #[Value.ref b] below meth c H [] cells slots Q (F0 m 1310 ls [])) : W p l e room_1 s m #[Value.ref b] below meth c H locs cells slots Q (F0 m 18 ls []) := by
  have hx := hC.1.1
  have hb := hC.1.2.1
  have hL5 := hC.2.2.2.2.2.1
  refine loop_wr (fun a : Nat => lwL b n0 a) (fun a H locs => a ≤ 64 ∧ LI b L xs s G Z n0 H locs) (fun a => 64 - a) 0 ⟨by omega, hI⟩ hl ?_
  intro a H locs hA again ls hl
  obtain ⟨ha, hI⟩ := hA
  refine L_head hx hb hI.1.1 hL5 ha hl ?_ (fun h8 => ?_)
  · exact va_forget (fun q hq => hn0 ▸ hI.1.2.2 q hq) (kr H ls)
  · refine k_word hC h8 hl hI (fun H locs hI => ?_)
    refine lv_iinc (v := nI (8 * (a + 1))) (lv' := [(3, .int (nI (8 * (a + 1)))), (0, .ref b), (1, .ref n0), (2, .ref (n0 + 103))]) hx hb dL_law_1304 hl (k := 3) rfl (by rw [show Int32.ofInt 8 = nI 8 by decide, nI_add]; rfl) (by decide) rfl (fun ls hl => ?_)
    refine lv_goto (tgt := 18) hx hb dL_law_1307 (by decide) ?_
    exact again (a + 1) H locs ⟨by omega, hI⟩ (by omega) ls (lv_sub hl [1, 2, 3, 0] rfl)
end LAW

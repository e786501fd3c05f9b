/-! what holds at the law's start: the classes, the texts, the two tables -/
theorem arr_known {args : Array Value} {s : State} {ty : FieldType} (h : (Cond.arrayClass ty).before args s = true) : ∃ q : ClassId, ArrOfT s q ty ∧ s.vm.findClass ("[" ++ ty.toString) = some q := by
  obtain ⟨cA, kA, comp, h1, h2, h3⟩ := Cond.arrayClass_spec h
  exact ⟨cA, fun n z => ⟨fun k h => (by cases h), kA, h2, comp, h3⟩, h1⟩
theorem over_known {args : Array Value} {s : State} {C : String} (h : (Cond.arrayOver (.object C)).before args s = true) : ∃ q : ClassId, ArrOfT s q (.object C) ∧ va_RA s q (.object C) := by
  obtain ⟨comp, cA, kA, h1, h2, h3, h4, h5⟩ := Cond.arrayOver_spec h
  exact ⟨cA, fun n z => ⟨fun k h => (by cases h), kA, h3, comp, h4⟩, kA, comp, h3, h4, h1, h5⟩
theorem gK_start {args : Array Value} {s : State} (hts : ∀ w ∈ lw_tbl, w.before args s = true) : ∃ G : GG, gK G s := by
  obtain ⟨c0, i0, k0⟩ := u_known (C := RX0) (T := TX0) (N := 2) (n := 2) hts inX0 (hts _ (lwT1 146 (by decide +kernel)))
  obtain ⟨c1, i1, k1⟩ := u_known (C := RX1) (T := TX1) (N := 8) (n := 8) hts inX1 (hts _ (lwT1 74 (by decide +kernel)))
  obtain ⟨c2, i2, k2⟩ := u_known (C := RX2) (T := TX2) (N := 4) (n := 4) hts inX2 (hts _ (lwT1 31 (by decide +kernel)))
  obtain ⟨c3, i3, k3⟩ := u_known (C := RX3) (T := TX3) (N := 3) (n := 3) hts inX3 (hts _ (lwT1 54 (by decide +kernel)))
  obtain ⟨c4, i4, k4⟩ := u_known (C := RX4) (T := TX4) (N := 6) (n := 6) hts inX4 (hts _ (lwT1 25 (by decide +kernel)))
  obtain ⟨c5, i5, k5⟩ := u_known (C := RX5) (T := TX5) (N := 4) (n := 4) hts inX5 (hts _ (lwT1 17 (by decide +kernel)))
  obtain ⟨c6, i6, k6⟩ := u_known (C := RX6) (T := TX6) (N := 18) (n := 18) hts inX6 (hts _ (lwT4 23 (by decide +kernel)))
  obtain ⟨qb, b1, b2⟩ := arr_known (ty := .byte) (hts _ (lwT1 71 (by decide +kernel)))
  obtain ⟨qi, d1, d2⟩ := arr_known (ty := .int) (hts _ (lwT1 52 (by decide +kernel)))
  obtain ⟨qz, z1, z2⟩ := arr_known (ty := .boolean) (hts _ (lwT4 82 (by decide +kernel)))
  obtain ⟨qo, o1, o2⟩ := over_known (C := "SameWater$Law") (hts _ (lwT1 73 (by decide +kernel)))
  refine ⟨((fun k => if k = 0 then c0 else if k = 1 then c1 else if k = 2 then c2 else if k = 3 then c3 else if k = 4 then c4 else if k = 5 then c5 else c6, fun k => if k = 0 then i0 else if k = 1 then i1 else if k = 2 then i2 else if k = 3 then i3 else if k = 4 then i4 else if k = 5 then i5 else i6), fun k => if k = 0 then qb else if k = 1 then qi else if k = 2 then qz else qo), ⟨fun c q hq => ?_, fun k q hq => ?_⟩, ?_⟩
  · match c, hq with
    | 0, hq => cases hq; exact k0
    | 1, hq => cases hq; exact k1
    | 2, hq => cases hq; exact k2
    | 3, hq => cases hq; exact k3
    | 4, hq => cases hq; exact k4
    | 5, hq => cases hq; exact k5
    | 6, hq => cases hq; exact k6
    | c + 7, hq => simp at hq
  · match k, hq with
    | 0, hq => cases hq; exact ⟨b1, b2⟩
    | 1, hq => cases hq; exact ⟨d1, d2⟩
    | 2, hq => cases hq; exact ⟨z1, z2⟩
    | 3, hq => cases hq; exact ⟨o1, o2⟩
    | k + 4, hq => simp at hq
  · exact List.forall_mem_cons.mpr ⟨va_Nw.of rfl (hts _ (lwT3 208 (by decide +kernel))), List.forall_mem_cons.mpr ⟨va_Nw.of rfl (hts _ (lwT3 206 (by decide +kernel))), List.forall_mem_cons.mpr ⟨va_Nw.of rfl (hts _ (lwT1 147 (by decide +kernel))), List.forall_mem_cons.mpr ⟨va_Nw.of rfl (hts _ (lwT3 205 (by decide +kernel))), List.forall_mem_cons.mpr ⟨va_Nw.of rfl (hts _ (lwT2 166 (by decide +kernel))), List.forall_mem_cons.mpr ⟨va_Nw.of rfl (hts _ (lwT3 141 (by decide +kernel))), List.forall_mem_cons.mpr ⟨va_Nw.of rfl (hts _ (lwT1 55 (by decide +kernel))), List.forall_mem_cons.mpr ⟨va_Nw.of rfl (hts _ (lwT1 75 (by decide +kernel))), fun _ h => absurd h List.not_mem_nil⟩⟩⟩⟩⟩⟩⟩⟩
/-- one text -/
theorem am1_of {args : Array Value} {s : State} {tm : Term} {L : List Nat} {A : Nat → Prop} (hN : L.length < 2 ^ 31) (hex : (Cond.exactly tm "java/lang/String").before args s = true) (hco : (Cond.eq (.field tm "java/lang/String" "coder" "B") (.int 0)).before args s = true) (har : (Cond.arrayOf (.field tm "java/lang/String" "value" "[B") .byte).before args s = true) (hle : (Cond.eq (.length (.field tm "java/lang/String" "value" "[B")) (.int (Int32.ofNat L.length))).before args s = true) (hel : ∀ j : Nat, j < L.length → (Cond.eq (.elem (.field tm "java/lang/String" "value" "[B") (.int (Int32.ofNat j))) (.int (nI (L.getD j 0)))).before args s = true) (hA : ∀ a : Nat, a < s.heap.size → ¬ A a) : ∃ q : Nat × Nat, tm.eval args s none [] s = some (.ref q.1) ∧ am1 A q.1 q.2 L s s.heap := by
  obtain ⟨a, c, cA, kA, q1, q2, q3, q4, q5, q6, -⟩ := Cond.exactly_spec (args := args) (first := s) (o := none) (s := s) (idx := []) (t := tm) (cls := "java/lang/String") hex
  obtain ⟨t, ht, hT⟩ := va_Tof (f := fun j => .int (nI (L.getD j 0))) (A := A) hN har (va_eqt hle) (fun j hj => va_eqt (hel j hj)) hA
  exact ⟨(a, t), q1, ⟨cA, q3, q5, by rw [q6]; exact q2, hA a (Array.getElem?_eq_some_iff.mp q3).1⟩, vk_OFof q1 (va_eqt hco) hA, vk_OFof q1 ht hA, hT⟩
abbrev tmS (i : Nat) : Term := .string (txO i) (txI i)
abbrev tmV (i : Nat) : Term := .field (tmS i) "java/lang/String" "value" "[B"
abbrev preC9 : Cond := Jvm.Cond.and given_1 narrow_1
theorem mem_seg {α : Type} {L R : List α} {p n : Nat} (h : (L.drop p).take n = R) : ∀ w ∈ R, w ∈ L := fun w hw => List.mem_of_mem_drop (List.mem_of_mem_take (h ▸ hw))
def stL (i : Nat) : List Cond := Cond.exactly (tmS i) "java/lang/String" :: Cond.eq (.field (tmS i) "java/lang/String" "coder" "B") (.int 0) :: Cond.arrayOf (tmV i) .byte :: Cond.eq (.length (tmV i)) (.int (Int32.ofNat (txB i).length)) :: (List.range (txB i).length).map (fun j => Cond.eq (.elem (tmV i) (.int (Int32.ofNat j))) (.int (nI ((txB i).getD j 0))))
set_option maxRecDepth 100000 in
theorem st_s0 : ((flatC preC9).drop 43).take 8 = stL 0 := by decide +kernel
set_option maxRecDepth 100000 in
theorem st_s1 : ((flatC preC9).drop 76).take 8 = stL 1 := by decide +kernel
set_option maxRecDepth 100000 in
theorem st_s2 : ((flatC preC9).drop 87).take 7 = stL 2 := by decide +kernel
set_option maxRecDepth 100000 in
theorem st_s3 : ((flatC preC9).drop 98).take 7 = stL 3 := by decide +kernel
set_option maxRecDepth 100000 in
theorem st_s4 : ((flatC preC9).drop 110).take 7 = stL 4 := by decide +kernel
set_option maxRecDepth 100000 in
theorem st_s5 : ((flatC preC9).drop 51).take 8 = stL 5 := by decide +kernel
set_option maxRecDepth 100000 in
theorem st_s6 : ((flatC preC9).drop 123).take 11 = stL 6 := by decide +kernel
set_option maxRecDepth 100000 in
theorem st_s7 : ((flatC preC9).drop 141).take 7 = stL 7 := by decide +kernel
set_option maxRecDepth 100000 in
theorem st_s8 : ((flatC preC9).drop 60).take 14 = stL 8 := by decide +kernel
set_option maxRecDepth 100000 in
theorem st_s9 : ((flatC preC9).drop 156).take 9 = stL 9 := by decide +kernel
set_option maxRecDepth 100000 in
theorem st_s10 : ((flatC preC9).drop 174).take 9 = stL 10 := by decide +kernel
set_option maxRecDepth 100000 in
theorem st_s11 : ((flatC preC9).drop 193).take 8 = stL 11 := by decide +kernel
set_option maxRecDepth 100000 in
theorem st_s12 : ((flatC preC9).drop 212).take 7 = stL 12 := by decide +kernel
set_option maxRecDepth 100000 in
theorem st_s13 : ((flatC preC9).drop 231).take 11 = stL 13 := by decide +kernel
set_option maxRecDepth 100000 in
theorem st_s14 : ((flatC preC9).drop 255).take 7 = stL 14 := by decide +kernel
theorem st_in : ∀ i, i < 15 → ∀ w ∈ stL i, w ∈ flatC preC9 := by
  intro i hi
  match i, hi with
  | 0, _ => exact mem_seg st_s0
  | 1, _ => exact mem_seg st_s1
  | 2, _ => exact mem_seg st_s2
  | 3, _ => exact mem_seg st_s3
  | 4, _ => exact mem_seg st_s4
  | 5, _ => exact mem_seg st_s5
  | 6, _ => exact mem_seg st_s6
  | 7, _ => exact mem_seg st_s7
  | 8, _ => exact mem_seg st_s8
  | 9, _ => exact mem_seg st_s9
  | 10, _ => exact mem_seg st_s10
  | 11, _ => exact mem_seg st_s11
  | 12, _ => exact mem_seg st_s12
  | 13, _ => exact mem_seg st_s13
  | 14, _ => exact mem_seg st_s14
theorem st_ex : ∀ i, i < 15 → Cond.exactly (tmS i) "java/lang/String" ∈ flatC preC9 := fun i hi => st_in i hi _ List.mem_cons_self
theorem st_co : ∀ i, i < 15 → Cond.eq (.field (tmS i) "java/lang/String" "coder" "B") (.int 0) ∈ flatC preC9 := fun i hi => st_in i hi _ (List.mem_cons_of_mem _ List.mem_cons_self)
theorem st_ar : ∀ i, i < 15 → Cond.arrayOf (tmV i) .byte ∈ flatC preC9 := fun i hi => st_in i hi _ (List.mem_cons_of_mem _ (List.mem_cons_of_mem _ List.mem_cons_self))
theorem st_le : ∀ i, i < 15 → Cond.eq (.length (tmV i)) (.int (Int32.ofNat (txB i).length)) ∈ flatC preC9 := fun i hi => st_in i hi _ (List.mem_cons_of_mem _ (List.mem_cons_of_mem _ (List.mem_cons_of_mem _ List.mem_cons_self)))
theorem st_el : ∀ i, i < 15 → ∀ j, j < (txB i).length → Cond.eq (.elem (tmV i) (.int (Int32.ofNat j))) (.int (nI ((txB i).getD j 0))) ∈ flatC preC9 := fun i hi j hj => st_in i hi _ (List.mem_cons_of_mem _ (List.mem_cons_of_mem _ (List.mem_cons_of_mem _ (List.mem_cons_of_mem _ (List.mem_map.mpr ⟨j, List.mem_range.mpr hj, rfl⟩)))))
set_option maxRecDepth 100000 in
theorem st_sa : ((flatC preC9).drop 33).take 10 = Cond.isRef (.static "SameWater" "ABOVE" "[I") :: Cond.arrayOf (.static "SameWater" "ABOVE" "[I") .int :: Cond.eq (.length (.static "SameWater" "ABOVE" "[I")) (.int (Int32.ofNat 7)) :: (List.range 7).map (fun j => Cond.eq (.elem (.static "SameWater" "ABOVE" "[I") (.int (Int32.ofNat j))) (.int (tAbv j))) := by decide +kernel
set_option maxRecDepth 100000 in
theorem st_sb : ((flatC preC9).drop 9).take 24 = Cond.isRef (.static "SameWater" "BODIES" "[I") :: Cond.arrayOf (.static "SameWater" "BODIES" "[I") .int :: Cond.eq (.length (.static "SameWater" "BODIES" "[I")) (.int (Int32.ofNat 21)) :: (List.range 21).map (fun j => Cond.eq (.elem (.static "SameWater" "BODIES" "[I") (.int (Int32.ofNat j))) (.int (tBod j))) := by decide +kernel
theorem st_abv : ∀ j, j < 7 → Cond.eq (.elem (.static "SameWater" "ABOVE" "[I") (.int (Int32.ofNat j))) (.int (tAbv j)) ∈ flatC preC9 := fun j hj => mem_seg st_sa _ (List.mem_cons_of_mem _ (List.mem_cons_of_mem _ (List.mem_cons_of_mem _ (List.mem_map.mpr ⟨j, List.mem_range.mpr hj, rfl⟩))))
theorem st_bod : ∀ j, j < 21 → Cond.eq (.elem (.static "SameWater" "BODIES" "[I") (.int (Int32.ofNat j))) (.int (tBod j)) ∈ flatC preC9 := fun j hj => mem_seg st_sb _ (List.mem_cons_of_mem _ (List.mem_cons_of_mem _ (List.mem_cons_of_mem _ (List.mem_map.mpr ⟨j, List.mem_range.mpr hj, rfl⟩))))
theorem st_ref : ∀ i, i < 15 → Cond.stringRef (txO i) (txI i) (txT i) ∈ lw_tbl := by
  intro i hi
  match i, hi with
  | 0, _ => exact lwT2 38 (by decide +kernel)
  | 1, _ => exact lwT2 167 (by decide +kernel)
  | 2, _ => exact lwT2 178 (by decide +kernel)
  | 3, _ => exact lwT2 184 (by decide +kernel)
  | 4, _ => exact lwT2 185 (by decide +kernel)
  | 5, _ => exact lwT2 95 (by decide +kernel)
  | 6, _ => exact lwT2 202 (by decide +kernel)
  | 7, _ => exact lwT2 203 (by decide +kernel)
  | 8, _ => exact lwT2 161 (by decide +kernel)
  | 9, _ => exact lwT4 154 (by decide +kernel)
  | 10, _ => exact lwT4 177 (by decide +kernel)
  | 11, _ => exact lwT4 182 (by decide +kernel)
  | 12, _ => exact lwT4 183 (by decide +kernel)
  | 13, _ => exact lwT4 200 (by decide +kernel)
  | 14, _ => exact lwT4 205 (by decide +kernel)
theorem amb_start {args : Array Value} {s : State} (hts : ∀ w ∈ lw_tbl, w.before args s = true) (hgv : preC9.before args s = true) {A : Nat → Prop} (hA : ∀ a : Nat, a < s.heap.size → ¬ A a) : ∃ Z : AM, Z.1 = A ∧ amK Z s s.heap := by
  have hs := flat_of_before _ hgv
  have h0 : ∀ i : Nat, ∃ q : Nat × Nat, i < 15 → (tmS i).eval args s none [] s = some (.ref q.1) ∧ am1 A q.1 q.2 (txB i) s s.heap := by
    intro i
    by_cases hi : i < 15
    · obtain ⟨q, h1, h2⟩ := am1_of (tm := tmS i) (L := txB i) (A := A) (by have := txB_len i; omega) (hs _ (st_ex i hi)) (hs _ (st_co i hi)) (hs _ (st_ar i hi)) (hs _ (st_le i hi)) (fun j hj => hs _ (st_el i hi j hj)) hA
      exact ⟨q, fun _ => ⟨h1, h2⟩⟩
    · exact ⟨(0, 0), fun h => absurd h hi⟩
  obtain ⟨ad, had⟩ := Classical.axiomOfChoice h0
  obtain ⟨zA, eA, tA⟩ := va_Tof (tm := .static "SameWater" "ABOVE" "[I") (ty := .int) (N := 7) (f := fun j => .int (tAbv j)) (A := A) (by decide) (hs _ (mem_seg st_sa _ (List.mem_cons_of_mem _ List.mem_cons_self))) (va_eqt (hs _ (mem_seg st_sa _ (List.mem_cons_of_mem _ (List.mem_cons_of_mem _ List.mem_cons_self))))) (fun j hj => va_eqt (hs _ (st_abv j hj))) hA
  obtain ⟨zB, eB, tB⟩ := va_Tof (tm := .static "SameWater" "BODIES" "[I") (ty := .int) (N := 21) (f := fun j => .int (tBod j)) (A := A) (by decide) (hs _ (mem_seg st_sb _ (List.mem_cons_of_mem _ List.mem_cons_self))) (va_eqt (hs _ (mem_seg st_sb _ (List.mem_cons_of_mem _ (List.mem_cons_of_mem _ List.mem_cons_self))))) (fun j hj => va_eqt (hs _ (st_bod j hj))) hA
  refine ⟨(A, fun i => (ad i).1, fun i => (ad i).2, zA, zB), rfl, fun i hi => (had i hi).2, ?_, ?_, ⟨?_, tA⟩, ⟨?_, tB⟩, fun i hi => vk_R.of (hts _ (st_ref i hi)) (had i hi).1⟩
  · exact va_Zof (hts _ (lwT2 52 (by decide +kernel))) (hts _ (lwT1 9 (by decide +kernel))) (va_eqi (hs _ (List.mem_of_getElem? (i := 4) (by decide +kernel)))) hA
  · exact va_Zqof (hts _ (lwT2 68 (by decide +kernel))) (hts _ (lwT1 11 (by decide +kernel))) (hs _ (List.mem_of_getElem? (i := 5) (by decide +kernel))) hA
  · exact va_Zref (hts _ (lwT3 209 (by decide +kernel))) (hts _ (lwT1 1 (by decide +kernel))) eA hA
  · exact va_Zref (hts _ (lwT3 207 (by decide +kernel))) (hts _ (lwT1 1 (by decide +kernel))) eB hA
/-- the two objects as they are made say the same -/
theorem inv9_0 : Inv9 wd0 wd0 false 0 (fun _ => 0) mt0 := by
  have z : ∀ j : Nat, mS mt0 j = 0 := fun _ => rfl
  have hR : Rl wd0 (mS mt0) := ⟨⟨rfl, Nat.zero_le _⟩, ⟨rfl, Nat.zero_le _⟩, ⟨rfl, Nat.zero_le _⟩, ⟨rfl, Nat.zero_le _⟩, ⟨rfl, Nat.zero_le _⟩, fun c hc => absurd hc (Nat.not_lt_zero _), fun a ha => absurd ha (Nat.not_lt_zero _), fun a ha => absurd ha (Nat.not_lt_zero _), fun l hl => absurd hl (Nat.not_lt_zero _), fun i hi => absurd hi (Nat.not_lt_zero _)⟩
  have h0 : ∀ r ∈ mRg, ib r.2.2.1 r.2.2.2 (0 : Int32) := by
    have : ∀ r ∈ mRg, r.2.2.1 ≤ 0 ∧ 0 ≤ r.2.2.2 := by decide
    exact fun r hr => this r hr
  have z3 : ib 0 3 (0 : Int32) := ⟨by decide, by decide⟩
  have hJ : mJ (mS mt0) := ⟨fun j r hr _ _ => h0 r hr, fun i _ => ⟨z3, z3⟩, fun l hl => absurd hl (by rw [z]; exact fun q => by have : (0 : Int32).toInt = 0 := rfl; omega), fun t ht => absurd ht (by rw [z]; exact fun q => by have : (0 : Int32).toInt = 0 := rfl; omega)⟩
  exact ⟨hR, hJ, fun _ _ => rfl, fun _ _ => rfl, rfl, fun h => absurd h (by decide), rfl, by decide, fun j hj _ => absurd hj (Nat.not_lt_zero _)⟩
theorem CAt.kept {G : GG} {AD ad td : Nat → Nat} {wd wt : WT} {tk : Bool} {rn : Int32} {bo : Nat → Int32} {H H1 : Heap} (h : CAt G AD ad td wd wt tk rn bo H) (hq : ∀ q : Nat, cA AD ad td q → H1[q]? = H[q]?) : CAt G AD ad td wd wt tk rn bo H1 := by
  obtain ⟨h1, h2, h3, h4, h5⟩ := h
  exact ⟨h1.kept (hq _ (.inl ⟨0, by decide, rfl⟩)), h2.kept (fun j hj => hq _ (.inr (.inl ⟨j, hj, rfl⟩))), h3.kept (fun j hj => hq _ (.inr (.inr ⟨j, hj, rfl⟩))), h4.kept (hq _ (.inl ⟨1, by decide, rfl⟩)), h5.kept (hq _ (.inl ⟨2, by decide, rfl⟩))⟩

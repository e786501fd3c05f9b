/-- what a caller may ask of a contract whose fact leaves something open -/
theorem met_ex {α : Type} {l : Launch} {y : MethodName} {ws : List Cond} {rm : Room} {G : GG} {av : List Value} {B : α → Heap → Prop} {r : Option Value} {B2 B3 : Heap → Prop} {A : Nat → Prop} {mc ms : Nat} {free : Addr → Prop} {r0 : α → Option Value} {B0 : α → Heap → Prop}
    (h : ∀ t, Met l y ws rm (roP G av (B t)) (wrQ (r0 t) (B0 t) A) mc ms free) (hr : ∀ t, r0 t = r) (hB : ∀ H, B2 H → ∃ t, B t H) (h0 : ∀ t H, B0 t H → B3 H) : Met l y ws rm (roP G av B2) (wrQ r B3 A) mc ms free := by
  intro p e ha hc hk s m args below hf happ hP hK
  obtain ⟨h1, h2, h3⟩ := hP
  obtain ⟨t, ht⟩ := hB _ h3
  obtain ⟨n, o, q1, q2, q3, ⟨q4, q5⟩, q6⟩ := h t p e ha hc hk s m args below hf happ ⟨h1, h2, ht⟩ hK
  exact ⟨n, o, q1, q2, q3, ⟨hr t ▸ q4, h0 t _ q5.1, q5.2⟩, q6⟩
def m3 (M : Nat → Nat) : Nat → Prop := fun q => q = M 3
def MTr (G : GG) (M : Nat → Nat) (x : MT) (Tr : Nat → Int32) (H : Heap) : Prop := oA G (M 0) 6 [.int (mTh x), .ref (M 1), .ref (M 2), .int (b2i (mHi x)), .int (mAc x), .int (mSp x), .int (mEn x), .int (b2i (mWr x)), .int (mOp x), .ref (M 3), .ref (M 4), .long (mAl x), .long (mSa x), .ref (M 5), .int (mRa x), .int (mKi x), .int (mNu x), .int (mTv x)] H ∧ iA G 1 (M 1) 1920 (mS x) H ∧ iA G 1 (M 2) 1920 (mIm x) H ∧ iA G 2 (M 3) 64 Tr H ∧ (∃ f : Nat → Int32, iA G 1 (M 4) 3 f H) ∧ iA G 1 (M 5) 20 (mBo x) H
theorem MTr.to {G : GG} {M : Nat → Nat} {x : MT} {Tr : Nat → Int32} {H : Heap} (h : MTr G M x Tr H) : MAt G M x H := ⟨h.1, h.2.1, h.2.2.1, ⟨Tr, h.2.2.2.1⟩, h.2.2.2.2⟩
theorem MAt.tr {G : GG} {M : Nat → Nat} {x : MT} {H : Heap} (h : MAt G M x H) : ∃ Tr, MTr G M x Tr H := by
  obtain ⟨h0, h1, h2, ⟨f, h3⟩, h4⟩ := h
  exact ⟨f, h0, h1, h2, h3, h4⟩
theorem MTr.put {G : GG} {M : Nat → Nat} {x : MT} {Tr f : Nat → Int32} {H H1 : Heap} (h : MTr G M x Tr H) (hN : mN M) (hn : iA G 2 (M 3) 64 f H1) (hq : ∀ q : Nat, q ≠ M 3 → H1[q]? = H[q]?) : MTr G M x f H1 := by
  obtain ⟨h0, h1, h2, h3, ⟨g, h4⟩, h5⟩ := h
  have k : ∀ j, j < 6 → j ≠ 3 → H1[M j]? = H[M j]? := fun j a b => hq _ (hN j 3 a (by decide) b)
  exact ⟨h0.kept (k 0 (by decide) (by decide)), h1.kept (k 1 (by decide) (by decide)), h2.kept (k 2 (by decide) (by decide)), hn, ⟨g, h4.kept (k 4 (by decide) (by decide))⟩, h5.kept (k 5 (by decide) (by decide))⟩
/-- the steps that stand from k on can be gone over with d truths at hand -/
def wfGo (s : Nat → Int32) : Nat → Nat → Nat → Prop
  | 0, _, _ => True
  | n + 1, k, d => if s (nI k).toNatClampNeg < 0 then (if s (nI k).toNatClampNeg = -1 then 1 ≤ d ∧ wfGo s n (k + 1) d else if s (nI k).toNatClampNeg ≤ -10 then d = 1 ∧ wfGo s n (k + 1) 0 else 2 ≤ d ∧ wfGo s n (k + 1) (d - 1)) else d ≤ 12 ∧ wfGo s n (k + 1) (d + 1)
def wfX (s : Nat → Int32) (N k : Nat) (tp : Int32) : Prop := ∃ d : Nat, tp = nI d ∧ d ≤ 13 ∧ wfGo s (N - k) k d
theorem ib_m1 : ib (-1) (-1) (-1 : Int32) := by unfold ib; decide
theorem nI_m1 (d : Nat) (h : 1 ≤ d) : nI d + (-1) = nI (d - 1) := by
  obtain ⟨m, rfl⟩ : ∃ m, d = m + 1 := ⟨d - 1, by omega⟩
  rw [nI_succ]
  show nI m + 1 + -1 = nI m
  rw [← Int32.sub_eq_add_neg]
  exact Int32.add_sub_cancel (nI m) 1
theorem ib_d {d a b : Nat} (h1 : a ≤ d) (h2 : d ≤ b) (h3 : b < 2 ^ 31) : ib a b (nI d) := by
  have e : (nI d).toInt = d := Int32.toInt_ofNat_of_lt (by omega)
  exact ⟨by rw [e]; omega, by rw [e]; omega⟩
theorem wf_ex {s : Nat → Int32} {N k : Nat} {tp : Int32} (h : wfX s N k tp) (hk : k < N) : ∃ d : Nat, tp = nI d ∧ d ≤ 13 ∧ wfGo s (N - (k + 1) + 1) k d := by
  obtain ⟨d, e, h1, h2⟩ := h
  exact ⟨d, e, h1, by rw [show N - (k + 1) + 1 = N - k by omega]; exact h2⟩
theorem wfX.push {s : Nat → Int32} {N k : Nat} {tp : Int32} (h : wfX s N k tp) (hk : k < N) (h1 : ¬ s (nI k).toNatClampNeg < 0) : ib 0 12 tp ∧ wfX s N (k + 1) (tp + 1) := by
  obtain ⟨d, rfl, h2, h3⟩ := wf_ex h hk
  unfold wfGo at h3
  rw [if_neg h1] at h3
  exact ⟨ib_d (a := 0) (b := 12) (Nat.zero_le _) h3.1 (by decide), d + 1, (nI_succ d).symm, by omega, h3.2⟩
theorem wfX.not {s : Nat → Int32} {N k : Nat} {tp : Int32} (h : wfX s N k tp) (hk : k < N) (h1 : s (nI k).toNatClampNeg < 0) (h4 : s (nI k).toNatClampNeg = -1) : ib 0 12 (tp - 1) ∧ wfX s N (k + 1) tp := by
  obtain ⟨d, rfl, h2, h3⟩ := wf_ex h hk
  unfold wfGo at h3
  rw [if_pos h1, if_pos h4] at h3
  refine ⟨?_, d, rfl, by omega, h3.2⟩
  rw [Int32.sub_eq_add_neg, show -(1 : Int32) = -1 from rfl, nI_m1 _ h3.1]
  exact ib_d (a := 0) (b := 12) (Nat.zero_le _) (by omega) (by decide)
theorem wfX.join {s : Nat → Int32} {N k : Nat} {tp : Int32} (h : wfX s N k tp) (hk : k < N) (h1 : s (nI k).toNatClampNeg < 0) (h4 : ¬ s (nI k).toNatClampNeg = -1) (h5 : ¬ s (nI k).toNatClampNeg ≤ -10) : ib 0 12 (tp + -1) ∧ ib 0 11 (tp + -1 - 1) ∧ wfX s N (k + 1) (tp + -1) := by
  obtain ⟨d, rfl, h2, h3⟩ := wf_ex h hk
  unfold wfGo at h3
  rw [if_pos h1, if_neg h4, if_neg h5] at h3
  rw [nI_m1 _ (by omega)]
  refine ⟨ib_d (a := 0) (b := 12) (Nat.zero_le _) (by omega) (by decide), ?_, d - 1, rfl, by omega, h3.2⟩
  rw [Int32.sub_eq_add_neg, show -(1 : Int32) = -1 from rfl, nI_m1 _ (by omega)]
  exact ib_d (a := 0) (b := 11) (Nat.zero_le _) (by omega) (by decide)
theorem wfX.say {s : Nat → Int32} {N k : Nat} {tp : Int32} (h : wfX s N k tp) (hk : k < N) (h1 : s (nI k).toNatClampNeg < 0) (h4 : ¬ s (nI k).toNatClampNeg = -1) (h5 : s (nI k).toNatClampNeg ≤ -10) : wfX s N (k + 1) 0 := by
  obtain ⟨d, rfl, h2, h3⟩ := wf_ex h hk
  unfold wfGo at h3
  rw [if_pos h1, if_neg h4, if_pos h5] at h3
  exact ⟨0, rfl, by omega, h3.2⟩
theorem nI_addc {a : Nat} {m : Int} {y : Int32} (h : ib 0 m y) (hm : m < 2 ^ 31) : nI a + y = nI (a + y.toNatClampNeg) := by
  obtain ⟨n, rfl, h1, h2⟩ := h.nI_eq (by decide)
  rw [nI_add, nI_clamp (by omega)]
theorem i_X6_saying_X6 : ∀ w ∈ wsX60, w ∈ wsX6_saying := fun _ h => List.mem_cons_of_mem _ (List.mem_append_right _ h)
theorem k_X6_saying_fieldLink_9 : Cond.fieldLink RX6 9 "SameWaterModel" "s" "[I" ∈ wsX6_saying := by decide +kernel
theorem k_X6_saying_fieldLink_18 : Cond.fieldLink RX6 18 "SameWaterModel" "truths" "[Z" ∈ wsX6_saying := by decide +kernel
theorem kd_X6_letter : yX6_letter.cls = RX6 ∧ yX6_letter.cls ≠ "java/lang/invoke/MethodHandle" ∧ yX6_letter.cls ≠ "java/lang/invoke/VarHandle" ∧ (parseMethodDescriptor yX6_letter.desc).map (fun d => d.parameters.length) = some 3 := by decide +kernel
def r_sayGo (x : MT) (ln : Nat) (aa gg : Int32) : Nat → Nat → Int32 → (Nat → Int32) → Int32 × (Nat → Int32)
  | 0, _, _, Tr_k => ((-1), Tr_k)
  | n + 1, k, tp, Tr_k => if (mS x) (nI k).toNatClampNeg < 0 then if ((mS x) (nI k).toNatClampNeg) = (-1) then r_sayGo x ln aa gg n (k + 1) tp (upd Tr_k (tp - 1).toNatClampNeg (vp_nar .boolean (b2i (if (Tr_k (tp - 1).toNatClampNeg) = 0 then true else false)))) else if ((mS x) (nI k).toNatClampNeg) ≤ (-10) then if (Tr_k (0 : Int32).toNatClampNeg) = 0 then r_sayGo x ln aa gg n (k + 1) 0 Tr_k else ((-10) - ((mS x) (nI k).toNatClampNeg), Tr_k) else r_sayGo x ln aa gg n (k + 1) (tp + (-1)) (upd Tr_k ((tp + (-1)) - 1).toNatClampNeg (vp_nar .boolean (b2i (if ((mS x) (nI k).toNatClampNeg) = (-2) then if (Tr_k ((tp + (-1)) - 1).toNatClampNeg) = 0 then false else if (Tr_k (tp + (-1)).toNatClampNeg) = 0 then false else true else if (Tr_k ((tp + (-1)) - 1).toNatClampNeg) = 0 then if (Tr_k (tp + (-1)).toNatClampNeg) = 0 then false else true else true)))) else r_sayGo x ln aa gg n (k + 1) (tp + 1) (upd Tr_k tp.toNatClampNeg (vp_nar .boolean (b2i (if (((mS x) (nI k).toNatClampNeg) / 8) - (((mS x) (nI k).toNatClampNeg) / 8) / 4 * 4 = 0 then if (((mS x) (nI k).toNatClampNeg) / 32) ≤ (r_letter x (((mS x) (nI k).toNatClampNeg) - ((mS x) (nI k).toNatClampNeg) / 8 * 8) aa gg) then false else true else if ((((mS x) (nI k).toNatClampNeg) / 8) - (((mS x) (nI k).toNatClampNeg) / 8) / 4 * 4) = 1 then if (r_letter x (((mS x) (nI k).toNatClampNeg) - ((mS x) (nI k).toNatClampNeg) / 8 * 8) aa gg) = (((mS x) (nI k).toNatClampNeg) / 32) then true else false else if (r_letter x (((mS x) (nI k).toNatClampNeg) - ((mS x) (nI k).toNatClampNeg) / 8 * 8) aa gg) ≤ (((mS x) (nI k).toNatClampNeg) / 32) then false else true))))
theorem r_sayGo_0 (x : MT) (ln : Nat) (aa gg : Int32) (k : Nat) (tp : Int32) (Tr_k : Nat → Int32) : r_sayGo x ln aa gg 0 k tp Tr_k = (((-1), Tr_k)) := rfl
theorem r_sayGo_s (x : MT) (ln : Nat) (aa gg : Int32) (n k : Nat) (tp : Int32) (Tr_k : Nat → Int32) : r_sayGo x ln aa gg (n + 1) k tp Tr_k = (if (mS x) (nI k).toNatClampNeg < 0 then if ((mS x) (nI k).toNatClampNeg) = (-1) then r_sayGo x ln aa gg n (k + 1) tp (upd Tr_k (tp - 1).toNatClampNeg (vp_nar .boolean (b2i (if (Tr_k (tp - 1).toNatClampNeg) = 0 then true else false)))) else if ((mS x) (nI k).toNatClampNeg) ≤ (-10) then if (Tr_k (0 : Int32).toNatClampNeg) = 0 then r_sayGo x ln aa gg n (k + 1) 0 Tr_k else ((-10) - ((mS x) (nI k).toNatClampNeg), Tr_k) else r_sayGo x ln aa gg n (k + 1) (tp + (-1)) (upd Tr_k ((tp + (-1)) - 1).toNatClampNeg (vp_nar .boolean (b2i (if ((mS x) (nI k).toNatClampNeg) = (-2) then if (Tr_k ((tp + (-1)) - 1).toNatClampNeg) = 0 then false else if (Tr_k (tp + (-1)).toNatClampNeg) = 0 then false else true else if (Tr_k ((tp + (-1)) - 1).toNatClampNeg) = 0 then if (Tr_k (tp + (-1)).toNatClampNeg) = 0 then false else true else true)))) else r_sayGo x ln aa gg n (k + 1) (tp + 1) (upd Tr_k tp.toNatClampNeg (vp_nar .boolean (b2i (if (((mS x) (nI k).toNatClampNeg) / 8) - (((mS x) (nI k).toNatClampNeg) / 8) / 4 * 4 = 0 then if (((mS x) (nI k).toNatClampNeg) / 32) ≤ (r_letter x (((mS x) (nI k).toNatClampNeg) - ((mS x) (nI k).toNatClampNeg) / 8 * 8) aa gg) then false else true else if ((((mS x) (nI k).toNatClampNeg) / 8) - (((mS x) (nI k).toNatClampNeg) / 8) / 4 * 4) = 1 then if (r_letter x (((mS x) (nI k).toNatClampNeg) - ((mS x) (nI k).toNatClampNeg) / 8 * 8) aa gg) = (((mS x) (nI k).toNatClampNeg) / 32) then true else false else if (r_letter x (((mS x) (nI k).toNatClampNeg) - ((mS x) (nI k).toNatClampNeg) / 8 * 8) aa gg) ≤ (((mS x) (nI k).toNatClampNeg) / 32) then false else true))))) := rfl
def r_saying (x : MT) (Tr : Nat → Int32) (ln : Nat) (aa gg : Int32) : Int32 × (Nat → Int32) := r_sayGo x ln aa gg ((794 + 140 * ln + ((mS x) (786 + (nI ln)).toNatClampNeg).toNatClampNeg) - (794 + 140 * ln)) (794 + 140 * ln) 0 Tr
set_option maxHeartbeats 4000000 in
set_option maxRecDepth 100000 in
theorem c_X6_saying (l : Launch) (G : GG) (M : Nat → Nat) (x : MT) (Tr : Nat → Int32) (ln : Nat) (aa gg : Int32)  (hI : mI (mS x)) (hO : mO (mS x)) (hN : mN M) (hln : ln < 8) (iA : ib 0 15 aa) (hW : wfGo (mS x) (794 + 140 * ln + ((mS x) (786 + (nI ln)).toNatClampNeg).toNatClampNeg - (794 + 140 * ln)) (794 + 140 * ln) 0) : Met l yX6_saying wsX6_saying { frames := 1, cells := 0, slots := 0, locals := 23 } (roP G [.ref (M 0), .int (nI ln), .int aa, .int gg] (fun H => MTr G M x Tr H)) (wrQ (some (.int ((r_saying x Tr ln aa gg).1))) (fun H => MTr G M x ((r_saying x Tr ln aa gg).2) H) (m3 M)) 0 0 (m3 M) := by
  refine Met.ofW (cc := cX6_saying) (maxL := 10) (ret := (some .int)) (by decide) rfl ?_
  intro p e s m args below meth c s₁ Bd hml hv
  obtain ⟨rfl, hK, hB⟩ := hv
  have hx := Bd.exec
  have hb := Bd.bytes
  have hr := Bd.returns
  have hts := atoms_spec (ws := wsX6_saying) Bd.pre
  have hown : s.vm.findClass RX6 = some m.cls := findClass_of_methodNamed Bd.named
  have hlocks := Bd.notSynchronized
  have hC : CallFix p m c cX6_saying 10 s _ wsX6_saying RX6 := ⟨hx, hb, hml, hown, hts⟩
  have hl := lv_entry ([.ref (M 0), .int (nI ln), .int aa, .int gg]) (n := 10) (Nat.le_of_ble_eq_true rfl)
  rw [lg_entry_eq]
  generalize (lg_sl ([.ref (M 0), .int (nI ln), .int aa, .int gg]) ++ List.replicate (10 - (lg_sl ([.ref (M 0), .int (nI ln), .int aa, .int gg])).length) Slot.unset).toArray = ls at hl ⊢
  have hl : lv_has ls 10 [(0, .ref (M 0)), (1, .int (nI ln)), (2, .int aa), (3, .int gg)] := hl
  have hS : wS (m3 M) s.heap s.heap [] := wS.rf
  have f_s := hB
  have hZ := trivial
  have hN8 : ib 0 120 ((mS x) (786 + nI ln).toNatClampNeg) := mI.at (lo := 786) (hi := 793) (x := 0) (y := 120) hI (ib_add (ib_nI (n := 786) (by decide)) (ib_lt (n := 8) (by omega) (by decide)) (by decide) (by decide)) (by decide) (by decide) (by decide)
  have hN9 : ((mS x) (786 + (nI ln)).toNatClampNeg).toNatClampNeg ≤ 120 := by have := (hN8.clamp (by decide)).2; omega
  refine lv_iconst (v := 0) hx hb dX6_saying_0 (by decide) ?_
  refine lv_istore (lv' := [(4, .int 0), (0, .ref (M 0)), (1, .int (nI ln)), (2, .int aa), (3, .int gg)]) hx hb dX6_saying_1 hl (by decide) rfl (fun ls hl => ?_)
  refine lv_sipush (v := 794) hx hb dX6_saying_3 (by decide +kernel) ?_
  refine lv_sipush (v := 140) hx hb dX6_saying_6 (by decide +kernel) ?_
  refine lv_iload_n hx hb dX6_saying_9 rfl (lv_at hl 2 rfl) ?_
  refine lv_imul hx hb dX6_saying_10 ?_
  refine lv_iadd hx hb dX6_saying_11 ?_
  refine lv_topi (fun z9 ez9 => ?_)
  have ez8 : z9 = nI (794 + 140 * ln) := ez9.trans (show (794 : Int32) + 140 * nI ln = nI (794 + 140 * ln) by rw [show (794 : Int32) = nI 794 from rfl, show (140 : Int32) = nI 140 from rfl, pk_mul, nI_add])
  clear ez9
  subst ez8
  refine lv_istore (lv' := [(5, .int (nI (794 + 140 * ln))), (4, .int 0), (0, .ref (M 0)), (1, .int (nI ln)), (2, .int aa), (3, .int gg)]) hx hb dX6_saying_12 hl (by decide) rfl (fun ls hl => ?_)
  refine loop_wr (nL := 10) (α := Nat × Int32 × (Nat → Int32)) (fun a9 => [(0, .ref (M 0)), (1, .int (nI ln)), (2, .int aa), (3, .int gg), (4, .int (a9.2.1)), (5, .int (nI (a9.1)))]) (fun a9 H locs => ((a9.1 ≤ (794 + 140 * ln + ((mS x) (786 + (nI ln)).toNatClampNeg).toNatClampNeg) ∧ r_sayGo x ln aa gg ((794 + 140 * ln + ((mS x) (786 + (nI ln)).toNatClampNeg).toNatClampNeg) - a9.1) a9.1 a9.2.1 a9.2.2 = r_sayGo x ln aa gg ((794 + 140 * ln + ((mS x) (786 + (nI ln)).toNatClampNeg).toNatClampNeg) - (794 + 140 * ln)) (794 + 140 * ln) 0 Tr) ∧ (wfX (mS x) (794 + 140 * ln + ((mS x) (786 + (nI ln)).toNatClampNeg).toNatClampNeg) (a9.1) (a9.2.1))) ∧ (MTr G M x (a9.2.2) H) ∧ wS (m3 M) s.heap H locs ∧ True) (fun a9 => (794 + 140 * ln + ((mS x) (786 + (nI ln)).toNatClampNeg).toNatClampNeg) - a9.1) ((794 + 140 * ln), 0, Tr) ⟨⟨⟨(by first | exact Nat.zero_le _ | decide | omega), rfl⟩, ⟨0, rfl, by omega, hW⟩⟩, f_s, hS, hZ⟩ (lv_sub hl [2, 3, 4, 5, 1, 0] rfl) (fun a9 H locs hI9 ih_k ls hl => ?_)
  obtain ⟨k, tp, Tr_k⟩ := a9
  obtain ⟨⟨hI9, hX9⟩, f_s, hS, hZ⟩ := hI9
  have hX9 : wfX (mS x) (794 + 140 * ln + ((mS x) (786 + (nI ln)).toNatClampNeg).toNatClampNeg) k tp := hX9
  have f_s : MTr G M x Tr_k H := f_s
  obtain ⟨hk_k, hV⟩ : k ≤ (794 + 140 * ln + ((mS x) (786 + (nI ln)).toNatClampNeg).toNatClampNeg) ∧ r_sayGo x ln aa gg ((794 + 140 * ln + ((mS x) (786 + (nI ln)).toNatClampNeg).toNatClampNeg) - k) k tp Tr_k = r_sayGo x ln aa gg ((794 + 140 * ln + ((mS x) (786 + (nI ln)).toNatClampNeg).toNatClampNeg) - (794 + 140 * ln)) (794 + 140 * ln) 0 Tr := hI9
  have hl : lv_has ls 10 [(0, .ref (M 0)), (1, .int (nI ln)), (2, .int aa), (3, .int gg), (4, .int tp), (5, .int (nI k))] := hl
  refine lv_iload hx hb dX6_saying_14 (lv_at hl 5 rfl) ?_
  refine lv_sipush (v := 794) hx hb dX6_saying_16 (by decide +kernel) ?_
  refine lv_sipush (v := 140) hx hb dX6_saying_19 (by decide +kernel) ?_
  refine lv_iload_n hx hb dX6_saying_22 rfl (lv_at hl 1 rfl) ?_
  refine lv_imul hx hb dX6_saying_23 ?_
  refine lv_iadd hx hb dX6_saying_24 ?_
  refine lv_topi (fun z9 ez9 => ?_)
  have ez8 : z9 = nI (794 + 140 * ln) := ez9.trans (show (794 : Int32) + 140 * nI ln = nI (794 + 140 * ln) by rw [show (794 : Int32) = nI 794 from rfl, show (140 : Int32) = nI 140 from rfl, pk_mul, nI_add])
  clear ez9
  subst ez8
  refine lv_aload_n hx hb dX6_saying_25 rfl (lv_at hl 0 rfl) ?_
  refine r_get (C := RX6) (T := TX6) (N := 18) hx hb hts i_X6_saying_X6 hown hK (MTr.to f_s).1 rfl 1 (by decide) k_X6_saying_fieldLink_9 rfl rfl dX6_saying_26 ?_
  refine lv_sipush (v := 786) hx hb dX6_saying_29 (by decide +kernel) ?_
  refine lv_iload_n hx hb dX6_saying_32 rfl (lv_at hl 1 rfl) ?_
  refine lv_iadd hx hb dX6_saying_33 ?_
  refine r_iald hx hb hK (MTr.to f_s).2.1 (vp_ib (lo := 786) (hi := 793) (ib_add (ib_nI (n := 786) (by decide)) (ib_lt (n := 8) (by omega) (by decide)) (by decide) (by decide)) (by decide) (by decide)) dX6_saying_34 ?_
  refine lv_iadd hx hb dX6_saying_35 ?_
  refine lv_topi (fun z9 ez9 => ?_)
  have ez8 : z9 = nI (794 + 140 * ln + ((mS x) (786 + (nI ln)).toNatClampNeg).toNatClampNeg) := ez9.trans (nI_addc hN8 (by decide))
  clear ez9
  subst ez8
  refine lv_icmp_ge (tgt := 293) hx hb dX6_saying_36 (by decide) (fun h_1 => ?_) (fun h_1 => ?_)
  · have hN_k : k = (794 + 140 * ln + ((mS x) (786 + (nI ln)).toNatClampNeg).toNatClampNeg) := ge_ex (N := (794 + 140 * ln + ((mS x) (786 + (nI ln)).toNatClampNeg).toNatClampNeg)) rfl h_1 hk_k (by omega)
    subst hN_k
    rw [Nat.sub_self] at hV
    refine lv_iconst (v := (-1)) hx hb dX6_saying_293 (by decide) ?_
    have hE9 : r_saying x Tr ln aa gg = ((-1), Tr_k) := (by (try unfold r_saying); rw [← hV, r_sayGo_0]; first | done | rfl)
    exact wr_iret hx hb hr hlocks dX6_saying_294 hS (by rw [hE9]; exact f_s) (by rw [hE9]; first | done | rfl)
  · have hlt_k : k < (794 + 140 * ln + ((mS x) (786 + (nI ln)).toNatClampNeg).toNatClampNeg) := ge_in (N := (794 + 140 * ln + ((mS x) (786 + (nI ln)).toNatClampNeg).toNatClampNeg)) rfl h_1 hk_k (by omega)
    obtain ⟨n9, hn9⟩ : ∃ n9, (794 + 140 * ln + ((mS x) (786 + (nI ln)).toNatClampNeg).toNatClampNeg) - k = n9 + 1 := ⟨(794 + 140 * ln + ((mS x) (786 + (nI ln)).toNatClampNeg).toNatClampNeg) - k - 1, by omega⟩
    rw [hn9] at hV
    refine lv_aload_n hx hb dX6_saying_39 rfl (lv_at hl 0 rfl) ?_
    refine r_get (C := RX6) (T := TX6) (N := 18) hx hb hts i_X6_saying_X6 hown hK (MTr.to f_s).1 rfl 1 (by decide) k_X6_saying_fieldLink_9 rfl rfl dX6_saying_40 ?_
    refine lv_iload hx hb dX6_saying_43 (lv_at hl 5 rfl) ?_
    refine r_iald hx hb hK (MTr.to f_s).2.1 (vp_ib (lo := 0) (hi := 1919) (ib_lt (n := 1920) (by omega) (by decide)) (by decide) (by decide)) dX6_saying_45 ?_
    refine lv_istore (lv' := [(6, .int ((mS x) (nI k).toNatClampNeg)), (0, .ref (M 0)), (1, .int (nI ln)), (2, .int aa), (3, .int gg), (4, .int tp), (5, .int (nI k))]) hx hb dX6_saying_46 hl (by decide) rfl (fun ls hl => ?_)
    refine lv_iload hx hb dX6_saying_48 (lv_at hl 0 rfl) ?_
    refine lv_if_lt (tgt := 148) hx hb dX6_saying_50 (by decide) (fun h_2 => ?_) (fun h_2 => ?_)
    · refine lv_iload hx hb dX6_saying_148 (lv_at hl 0 rfl) ?_
      refine lv_iconst (v := (-1)) hx hb dX6_saying_150 (by decide) ?_
      refine lv_icmp_ne (tgt := 183) hx hb dX6_saying_151 (by decide) (fun h_3 => ?_) (fun h_3 => ?_)
      · refine lv_iload hx hb dX6_saying_183 (lv_at hl 0 rfl) ?_
        refine lv_bipush (v := (-10)) hx hb dX6_saying_185 (by decide +kernel) ?_
        refine lv_icmp_le (tgt := 269) hx hb dX6_saying_187 (by decide) (fun h_4 => ?_) (fun h_4 => ?_)
        · refine lv_iconst (v := 0) hx hb dX6_saying_269 (by decide) ?_
          refine lv_istore (lv' := [(4, .int 0), (6, .int ((mS x) (nI k).toNatClampNeg)), (0, .ref (M 0)), (1, .int (nI ln)), (2, .int aa), (3, .int gg), (5, .int (nI k))]) hx hb dX6_saying_270 hl (by decide) rfl (fun ls hl => ?_)
          refine lv_aload_n hx hb dX6_saying_272 rfl (lv_at hl 2 rfl) ?_
          refine r_get (C := RX6) (T := TX6) (N := 18) hx hb hts i_X6_saying_X6 hown hK (MTr.to f_s).1 rfl 9 (by decide) k_X6_saying_fieldLink_18 rfl rfl dX6_saying_273 ?_
          refine lv_iconst (v := 0) hx hb dX6_saying_276 (by decide) ?_
          refine r_zald hx hb hK f_s.2.2.2.1 (show ¬ ((0 : Int32) < 0 ∨ 64 ≤ (0 : Int32).toNatClampNeg) by decide) dX6_saying_277 ?_
          refine lv_if_eq (tgt := 287) hx hb dX6_saying_278 (by decide) (fun h_5 => ?_) (fun h_5 => ?_)
          · refine lv_iinc (v := (nI k) + 1) (lv' := [(5, .int ((nI k) + 1)), (4, .int 0), (6, .int ((mS x) (nI k).toNatClampNeg)), (0, .ref (M 0)), (1, .int (nI ln)), (2, .int aa), (3, .int gg)]) hx hb dX6_saying_287 hl (k := 6) rfl rfl (by decide) rfl (fun ls hl => ?_)
            refine lv_goto (tgt := 14) hx hb dX6_saying_290 (by decide) ?_
            have hE : r_sayGo x ln aa gg n9 (k + 1) 0 Tr_k = r_sayGo x ln aa gg ((794 + 140 * ln + ((mS x) (786 + (nI ln)).toNatClampNeg).toNatClampNeg) - (794 + 140 * ln)) (794 + 140 * ln) 0 Tr := (by rw [← hV, r_sayGo_s]; (repeat rw [if_pos h_2]); (repeat rw [if_neg h_3]); (repeat rw [if_pos h_4]); (repeat rw [if_pos h_5]); first | done | rfl)
            refine ih_k ((k + 1, 0, Tr_k)) _ _ ⟨⟨⟨(show k + 1 ≤ (794 + 140 * ln + ((mS x) (786 + (nI ln)).toNatClampNeg).toNatClampNeg) by omega), (by show r_sayGo x ln aa gg ((794 + 140 * ln + ((mS x) (786 + (nI ln)).toNatClampNeg).toNatClampNeg) - (k + 1)) (k + 1) 0 Tr_k = _; rw [show (794 + 140 * ln + ((mS x) (786 + (nI ln)).toNatClampNeg).toNatClampNeg) - (k + 1) = n9 by omega]; exact hE)⟩, (wfX.say hX9 hlt_k (by assumption) (by assumption) (by assumption))⟩, f_s, hS, hZ⟩ (show (794 + 140 * ln + ((mS x) (786 + (nI ln)).toNatClampNeg).toNatClampNeg) - (k + 1) < (794 + 140 * ln + ((mS x) (786 + (nI ln)).toNatClampNeg).toNatClampNeg) - k by omega) ls ?_
            show lv_has ls 10 [(0, .ref (M 0)), (1, .int (nI ln)), (2, .int aa), (3, .int gg), (4, .int 0), (5, .int (nI (k + 1)))]
            rw [nI_succ]
            exact lv_sub hl [3, 4, 5, 6, 1, 0] rfl
          · refine lv_bipush (v := (-10)) hx hb dX6_saying_281 (by decide +kernel) ?_
            refine lv_iload hx hb dX6_saying_283 (lv_at hl 1 rfl) ?_
            refine lv_isub hx hb dX6_saying_285 ?_
            have hE9 : r_saying x Tr ln aa gg = ((-10) - ((mS x) (nI k).toNatClampNeg), Tr_k) := (by (try unfold r_saying); rw [← hV, r_sayGo_s]; (repeat rw [if_neg h_1]); (repeat rw [if_pos h_2]); (repeat rw [if_neg h_3]); (repeat rw [if_pos h_4]); (repeat rw [if_neg h_5]); first | done | rfl)
            exact wr_iret hx hb hr hlocks dX6_saying_286 hS (by rw [hE9]; exact f_s) (by rw [hE9]; first | done | rfl)
        · refine lv_iinc (v := tp + (-1)) (lv' := [(4, .int (tp + (-1))), (6, .int ((mS x) (nI k).toNatClampNeg)), (0, .ref (M 0)), (1, .int (nI ln)), (2, .int aa), (3, .int gg), (5, .int (nI k))]) hx hb dX6_saying_190 hl (k := 5) rfl rfl (by decide) rfl (fun ls hl => ?_)
          refine lv_aload_n hx hb dX6_saying_193 rfl (lv_at hl 2 rfl) ?_
          refine r_get (C := RX6) (T := TX6) (N := 18) hx hb hts i_X6_saying_X6 hown hK (MTr.to f_s).1 rfl 9 (by decide) k_X6_saying_fieldLink_18 rfl rfl dX6_saying_194 ?_
          refine lv_iload hx hb dX6_saying_197 (lv_at hl 0 rfl) ?_
          refine lv_iconst (v := 1) hx hb dX6_saying_199 (by decide) ?_
          refine lv_isub hx hb dX6_saying_200 ?_
          refine lv_iload hx hb dX6_saying_201 (lv_at hl 1 rfl) ?_
          refine lv_bipush (v := (-2)) hx hb dX6_saying_203 (by decide +kernel) ?_
          refine join_wr (nL := 10) 265 [(4, .int (tp + (-1))), (6, .int ((mS x) (nI k).toNatClampNeg)), (0, .ref (M 0)), (1, .int (nI ln)), (2, .int aa), (3, .int gg), (5, .int (nI k))] [.int (b2i (if ((mS x) (nI k).toNatClampNeg) = (-2) then if (Tr_k ((tp + (-1)) - 1).toNatClampNeg) = 0 then false else if (Tr_k (tp + (-1)).toNatClampNeg) = 0 then false else true else if (Tr_k ((tp + (-1)) - 1).toNatClampNeg) = 0 then if (Tr_k (tp + (-1)).toNatClampNeg) = 0 then false else true else true)), .int ((tp + (-1)) - 1), .ref (M 3)] (fun H locs => (MTr G M x Tr_k H) ∧ wS (m3 M) s.heap H locs ∧ True) (fun H locs hI ls hl => ?_) (fun J_6 => ?_)
          · obtain ⟨f_s, hS, hZ⟩ := hI
            refine w_zast hx hb hK f_s.2.2.2.1 hS rfl (vp_ib (wfX.join hX9 hlt_k (by assumption) (by assumption) (by assumption)).2.1 (by decide) (by decide)) dX6_saying_265 (fun H locs hn hq hS => ?_)
            have f_s : MTr G M x (upd Tr_k ((tp + (-1)) - 1).toNatClampNeg (vp_nar .boolean (b2i (if ((mS x) (nI k).toNatClampNeg) = (-2) then if (Tr_k ((tp + (-1)) - 1).toNatClampNeg) = 0 then false else if (Tr_k (tp + (-1)).toNatClampNeg) = 0 then false else true else if (Tr_k ((tp + (-1)) - 1).toNatClampNeg) = 0 then if (Tr_k (tp + (-1)).toNatClampNeg) = 0 then false else true else true)))) H := f_s.put hN hn hq
            refine lv_goto (tgt := 287) hx hb dX6_saying_266 (by decide) ?_
            refine lv_iinc (v := (nI k) + 1) (lv' := [(5, .int ((nI k) + 1)), (4, .int (tp + (-1))), (6, .int ((mS x) (nI k).toNatClampNeg)), (0, .ref (M 0)), (1, .int (nI ln)), (2, .int aa), (3, .int gg)]) hx hb dX6_saying_287 hl (k := 6) rfl rfl (by decide) rfl (fun ls hl => ?_)
            refine lv_goto (tgt := 14) hx hb dX6_saying_290 (by decide) ?_
            have hE : r_sayGo x ln aa gg n9 (k + 1) (tp + (-1)) (upd Tr_k ((tp + (-1)) - 1).toNatClampNeg (vp_nar .boolean (b2i (if ((mS x) (nI k).toNatClampNeg) = (-2) then if (Tr_k ((tp + (-1)) - 1).toNatClampNeg) = 0 then false else if (Tr_k (tp + (-1)).toNatClampNeg) = 0 then false else true else if (Tr_k ((tp + (-1)) - 1).toNatClampNeg) = 0 then if (Tr_k (tp + (-1)).toNatClampNeg) = 0 then false else true else true)))) = r_sayGo x ln aa gg ((794 + 140 * ln + ((mS x) (786 + (nI ln)).toNatClampNeg).toNatClampNeg) - (794 + 140 * ln)) (794 + 140 * ln) 0 Tr := (by rw [← hV, r_sayGo_s]; (repeat rw [if_pos h_2]); (repeat rw [if_neg h_3]); (repeat rw [if_neg h_4]); first | done | rfl)
            refine ih_k ((k + 1, tp + (-1), (upd Tr_k ((tp + (-1)) - 1).toNatClampNeg (vp_nar .boolean (b2i (if ((mS x) (nI k).toNatClampNeg) = (-2) then if (Tr_k ((tp + (-1)) - 1).toNatClampNeg) = 0 then false else if (Tr_k (tp + (-1)).toNatClampNeg) = 0 then false else true else if (Tr_k ((tp + (-1)) - 1).toNatClampNeg) = 0 then if (Tr_k (tp + (-1)).toNatClampNeg) = 0 then false else true else true)))))) _ _ ⟨⟨⟨(show k + 1 ≤ (794 + 140 * ln + ((mS x) (786 + (nI ln)).toNatClampNeg).toNatClampNeg) by omega), (by show r_sayGo x ln aa gg ((794 + 140 * ln + ((mS x) (786 + (nI ln)).toNatClampNeg).toNatClampNeg) - (k + 1)) (k + 1) (tp + (-1)) (upd Tr_k ((tp + (-1)) - 1).toNatClampNeg (vp_nar .boolean (b2i (if ((mS x) (nI k).toNatClampNeg) = (-2) then if (Tr_k ((tp + (-1)) - 1).toNatClampNeg) = 0 then false else if (Tr_k (tp + (-1)).toNatClampNeg) = 0 then false else true else if (Tr_k ((tp + (-1)) - 1).toNatClampNeg) = 0 then if (Tr_k (tp + (-1)).toNatClampNeg) = 0 then false else true else true)))) = _; rw [show (794 + 140 * ln + ((mS x) (786 + (nI ln)).toNatClampNeg).toNatClampNeg) - (k + 1) = n9 by omega]; exact hE)⟩, (wfX.join hX9 hlt_k (by assumption) (by assumption) (by assumption)).2.2⟩, f_s, hS, hZ⟩ (show (794 + 140 * ln + ((mS x) (786 + (nI ln)).toNatClampNeg).toNatClampNeg) - (k + 1) < (794 + 140 * ln + ((mS x) (786 + (nI ln)).toNatClampNeg).toNatClampNeg) - k by omega) ls ?_
            show lv_has ls 10 [(0, .ref (M 0)), (1, .int (nI ln)), (2, .int aa), (3, .int gg), (4, .int (tp + (-1))), (5, .int (nI (k + 1)))]
            rw [nI_succ]
            exact lv_sub hl [3, 4, 5, 6, 1, 0] rfl
          · refine lv_icmp_ne (tgt := 238) hx hb dX6_saying_205 (by decide) (fun h_7 => ?_) (fun h_7 => ?_)
            · refine lv_aload_n hx hb dX6_saying_238 rfl (lv_at hl 2 rfl) ?_
              refine r_get (C := RX6) (T := TX6) (N := 18) hx hb hts i_X6_saying_X6 hown hK (MTr.to f_s).1 rfl 9 (by decide) k_X6_saying_fieldLink_18 rfl rfl dX6_saying_239 ?_
              refine lv_iload hx hb dX6_saying_242 (lv_at hl 0 rfl) ?_
              refine lv_iconst (v := 1) hx hb dX6_saying_244 (by decide) ?_
              refine lv_isub hx hb dX6_saying_245 ?_
              refine r_zald hx hb hK f_s.2.2.2.1 (vp_ib (wfX.join hX9 hlt_k (by assumption) (by assumption) (by assumption)).2.1 (by decide) (by decide)) dX6_saying_246 ?_
              refine lv_if_ne (tgt := 260) hx hb dX6_saying_247 (by decide) (fun h_8 => ?_) (fun h_8 => ?_)
              · refine lv_iconst (v := 1) hx hb dX6_saying_260 (by decide) ?_
                refine lv_goto (tgt := 265) hx hb dX6_saying_261 (by decide) ?_
                have hJ := J_6; (repeat rw [if_neg h_7] at hJ); (repeat rw [if_neg h_8] at hJ)
                first | exact hJ _ _ ⟨f_s, hS, hZ⟩ ls (lv_sub hl [0, 1, 2, 3, 4, 5, 6] rfl) | ((repeat rw [if_neg h_7] at hl); (repeat rw [if_neg h_8] at hl); (repeat rw [if_neg h_7]); (repeat rw [if_neg h_8]); exact hJ _ _ ⟨f_s, hS, hZ⟩ ls (lv_sub hl [0, 1, 2, 3, 4, 5, 6] rfl))
              · refine lv_aload_n hx hb dX6_saying_250 rfl (lv_at hl 2 rfl) ?_
                refine r_get (C := RX6) (T := TX6) (N := 18) hx hb hts i_X6_saying_X6 hown hK (MTr.to f_s).1 rfl 9 (by decide) k_X6_saying_fieldLink_18 rfl rfl dX6_saying_251 ?_
                refine lv_iload hx hb dX6_saying_254 (lv_at hl 0 rfl) ?_
                refine r_zald hx hb hK f_s.2.2.2.1 (vp_ib (wfX.join hX9 hlt_k (by assumption) (by assumption) (by assumption)).1 (by decide) (by decide)) dX6_saying_256 ?_
                refine lv_if_eq (tgt := 264) hx hb dX6_saying_257 (by decide) (fun h_9 => ?_) (fun h_9 => ?_)
                · refine lv_iconst (v := 0) hx hb dX6_saying_264 (by decide) ?_
                  have hJ := J_6; (repeat rw [if_neg h_7] at hJ); (repeat rw [if_pos h_8] at hJ); (repeat rw [if_pos h_9] at hJ)
                  first | exact hJ _ _ ⟨f_s, hS, hZ⟩ ls (lv_sub hl [0, 1, 2, 3, 4, 5, 6] rfl) | ((repeat rw [if_neg h_7] at hl); (repeat rw [if_pos h_8] at hl); (repeat rw [if_pos h_9] at hl); (repeat rw [if_neg h_7]); (repeat rw [if_pos h_8]); (repeat rw [if_pos h_9]); exact hJ _ _ ⟨f_s, hS, hZ⟩ ls (lv_sub hl [0, 1, 2, 3, 4, 5, 6] rfl))
                · refine lv_iconst (v := 1) hx hb dX6_saying_260 (by decide) ?_
                  refine lv_goto (tgt := 265) hx hb dX6_saying_261 (by decide) ?_
                  have hJ := J_6; (repeat rw [if_neg h_7] at hJ); (repeat rw [if_pos h_8] at hJ); (repeat rw [if_neg h_9] at hJ)
                  first | exact hJ _ _ ⟨f_s, hS, hZ⟩ ls (lv_sub hl [0, 1, 2, 3, 4, 5, 6] rfl) | ((repeat rw [if_neg h_7] at hl); (repeat rw [if_pos h_8] at hl); (repeat rw [if_neg h_9] at hl); (repeat rw [if_neg h_7]); (repeat rw [if_pos h_8]); (repeat rw [if_neg h_9]); exact hJ _ _ ⟨f_s, hS, hZ⟩ ls (lv_sub hl [0, 1, 2, 3, 4, 5, 6] rfl))
            · refine lv_aload_n hx hb dX6_saying_208 rfl (lv_at hl 2 rfl) ?_
              refine r_get (C := RX6) (T := TX6) (N := 18) hx hb hts i_X6_saying_X6 hown hK (MTr.to f_s).1 rfl 9 (by decide) k_X6_saying_fieldLink_18 rfl rfl dX6_saying_209 ?_
              refine lv_iload hx hb dX6_saying_212 (lv_at hl 0 rfl) ?_
              refine lv_iconst (v := 1) hx hb dX6_saying_214 (by decide) ?_
              refine lv_isub hx hb dX6_saying_215 ?_
              refine r_zald hx hb hK f_s.2.2.2.1 (vp_ib (wfX.join hX9 hlt_k (by assumption) (by assumption) (by assumption)).2.1 (by decide) (by decide)) dX6_saying_216 ?_
              refine lv_if_eq (tgt := 234) hx hb dX6_saying_217 (by decide) (fun h_10 => ?_) (fun h_10 => ?_)
              · refine lv_iconst (v := 0) hx hb dX6_saying_234 (by decide) ?_
                refine lv_goto (tgt := 265) hx hb dX6_saying_235 (by decide) ?_
                have hJ := J_6; (repeat rw [if_pos h_7] at hJ); (repeat rw [if_pos h_10] at hJ)
                first | exact hJ _ _ ⟨f_s, hS, hZ⟩ ls (lv_sub hl [0, 1, 2, 3, 4, 5, 6] rfl) | ((repeat rw [if_pos h_7] at hl); (repeat rw [if_pos h_10] at hl); (repeat rw [if_pos h_7]); (repeat rw [if_pos h_10]); exact hJ _ _ ⟨f_s, hS, hZ⟩ ls (lv_sub hl [0, 1, 2, 3, 4, 5, 6] rfl))
              · refine lv_aload_n hx hb dX6_saying_220 rfl (lv_at hl 2 rfl) ?_
                refine r_get (C := RX6) (T := TX6) (N := 18) hx hb hts i_X6_saying_X6 hown hK (MTr.to f_s).1 rfl 9 (by decide) k_X6_saying_fieldLink_18 rfl rfl dX6_saying_221 ?_
                refine lv_iload hx hb dX6_saying_224 (lv_at hl 0 rfl) ?_
                refine r_zald hx hb hK f_s.2.2.2.1 (vp_ib (wfX.join hX9 hlt_k (by assumption) (by assumption) (by assumption)).1 (by decide) (by decide)) dX6_saying_226 ?_
                refine lv_if_eq (tgt := 234) hx hb dX6_saying_227 (by decide) (fun h_11 => ?_) (fun h_11 => ?_)
                · refine lv_iconst (v := 0) hx hb dX6_saying_234 (by decide) ?_
                  refine lv_goto (tgt := 265) hx hb dX6_saying_235 (by decide) ?_
                  have hJ := J_6; (repeat rw [if_pos h_7] at hJ); (repeat rw [if_neg h_10] at hJ); (repeat rw [if_pos h_11] at hJ)
                  first | exact hJ _ _ ⟨f_s, hS, hZ⟩ ls (lv_sub hl [0, 1, 2, 3, 4, 5, 6] rfl) | ((repeat rw [if_pos h_7] at hl); (repeat rw [if_neg h_10] at hl); (repeat rw [if_pos h_11] at hl); (repeat rw [if_pos h_7]); (repeat rw [if_neg h_10]); (repeat rw [if_pos h_11]); exact hJ _ _ ⟨f_s, hS, hZ⟩ ls (lv_sub hl [0, 1, 2, 3, 4, 5, 6] rfl))
                · refine lv_iconst (v := 1) hx hb dX6_saying_230 (by decide) ?_
                  refine lv_goto (tgt := 265) hx hb dX6_saying_231 (by decide) ?_
                  have hJ := J_6; (repeat rw [if_pos h_7] at hJ); (repeat rw [if_neg h_10] at hJ); (repeat rw [if_neg h_11] at hJ)
                  first | exact hJ _ _ ⟨f_s, hS, hZ⟩ ls (lv_sub hl [0, 1, 2, 3, 4, 5, 6] rfl) | ((repeat rw [if_pos h_7] at hl); (repeat rw [if_neg h_10] at hl); (repeat rw [if_neg h_11] at hl); (repeat rw [if_pos h_7]); (repeat rw [if_neg h_10]); (repeat rw [if_neg h_11]); exact hJ _ _ ⟨f_s, hS, hZ⟩ ls (lv_sub hl [0, 1, 2, 3, 4, 5, 6] rfl))
      · refine lv_aload_n hx hb dX6_saying_154 rfl (lv_at hl 1 rfl) ?_
        refine r_get (C := RX6) (T := TX6) (N := 18) hx hb hts i_X6_saying_X6 hown hK (MTr.to f_s).1 rfl 9 (by decide) k_X6_saying_fieldLink_18 rfl rfl dX6_saying_155 ?_
        refine lv_iload hx hb dX6_saying_158 (lv_at hl 5 rfl) ?_
        refine lv_iconst (v := 1) hx hb dX6_saying_160 (by decide) ?_
        refine lv_isub hx hb dX6_saying_161 ?_
        refine lv_aload_n hx hb dX6_saying_162 rfl (lv_at hl 1 rfl) ?_
        refine r_get (C := RX6) (T := TX6) (N := 18) hx hb hts i_X6_saying_X6 hown hK (MTr.to f_s).1 rfl 9 (by decide) k_X6_saying_fieldLink_18 rfl rfl dX6_saying_163 ?_
        refine lv_iload hx hb dX6_saying_166 (lv_at hl 5 rfl) ?_
        refine lv_iconst (v := 1) hx hb dX6_saying_168 (by decide) ?_
        refine lv_isub hx hb dX6_saying_169 ?_
        refine r_zald hx hb hK f_s.2.2.2.1 (vp_ib (wfX.not hX9 hlt_k (by assumption) (by assumption)).1 (by decide) (by decide)) dX6_saying_170 ?_
        refine join_wr (nL := 10) 179 [(6, .int ((mS x) (nI k).toNatClampNeg)), (0, .ref (M 0)), (1, .int (nI ln)), (2, .int aa), (3, .int gg), (4, .int tp), (5, .int (nI k))] [.int (b2i (if (Tr_k (tp - 1).toNatClampNeg) = 0 then true else false)), .int (tp - 1), .ref (M 3)] (fun H locs => (MTr G M x Tr_k H) ∧ wS (m3 M) s.heap H locs ∧ True) (fun H locs hI ls hl => ?_) (fun J_12 => ?_)
        · obtain ⟨f_s, hS, hZ⟩ := hI
          refine w_zast hx hb hK f_s.2.2.2.1 hS rfl (vp_ib (wfX.not hX9 hlt_k (by assumption) (by assumption)).1 (by decide) (by decide)) dX6_saying_179 (fun H locs hn hq hS => ?_)
          have f_s : MTr G M x (upd Tr_k (tp - 1).toNatClampNeg (vp_nar .boolean (b2i (if (Tr_k (tp - 1).toNatClampNeg) = 0 then true else false)))) H := f_s.put hN hn hq
          refine lv_goto (tgt := 287) hx hb dX6_saying_180 (by decide) ?_
          refine lv_iinc (v := (nI k) + 1) (lv' := [(5, .int ((nI k) + 1)), (6, .int ((mS x) (nI k).toNatClampNeg)), (0, .ref (M 0)), (1, .int (nI ln)), (2, .int aa), (3, .int gg), (4, .int tp)]) hx hb dX6_saying_287 hl (k := 6) rfl rfl (by decide) rfl (fun ls hl => ?_)
          refine lv_goto (tgt := 14) hx hb dX6_saying_290 (by decide) ?_
          have hE : r_sayGo x ln aa gg n9 (k + 1) tp (upd Tr_k (tp - 1).toNatClampNeg (vp_nar .boolean (b2i (if (Tr_k (tp - 1).toNatClampNeg) = 0 then true else false)))) = r_sayGo x ln aa gg ((794 + 140 * ln + ((mS x) (786 + (nI ln)).toNatClampNeg).toNatClampNeg) - (794 + 140 * ln)) (794 + 140 * ln) 0 Tr := (by rw [← hV, r_sayGo_s]; (repeat rw [if_pos h_2]); (repeat rw [if_pos h_3]); first | done | rfl)
          refine ih_k ((k + 1, tp, (upd Tr_k (tp - 1).toNatClampNeg (vp_nar .boolean (b2i (if (Tr_k (tp - 1).toNatClampNeg) = 0 then true else false)))))) _ _ ⟨⟨⟨(show k + 1 ≤ (794 + 140 * ln + ((mS x) (786 + (nI ln)).toNatClampNeg).toNatClampNeg) by omega), (by show r_sayGo x ln aa gg ((794 + 140 * ln + ((mS x) (786 + (nI ln)).toNatClampNeg).toNatClampNeg) - (k + 1)) (k + 1) tp (upd Tr_k (tp - 1).toNatClampNeg (vp_nar .boolean (b2i (if (Tr_k (tp - 1).toNatClampNeg) = 0 then true else false)))) = _; rw [show (794 + 140 * ln + ((mS x) (786 + (nI ln)).toNatClampNeg).toNatClampNeg) - (k + 1) = n9 by omega]; exact hE)⟩, (wfX.not hX9 hlt_k (by assumption) (by assumption)).2⟩, f_s, hS, hZ⟩ (show (794 + 140 * ln + ((mS x) (786 + (nI ln)).toNatClampNeg).toNatClampNeg) - (k + 1) < (794 + 140 * ln + ((mS x) (786 + (nI ln)).toNatClampNeg).toNatClampNeg) - k by omega) ls ?_
          show lv_has ls 10 [(0, .ref (M 0)), (1, .int (nI ln)), (2, .int aa), (3, .int gg), (4, .int tp), (5, .int (nI (k + 1)))]
          rw [nI_succ]
          exact lv_sub hl [2, 3, 4, 5, 6, 0] rfl
        · refine lv_if_ne (tgt := 178) hx hb dX6_saying_171 (by decide) (fun h_13 => ?_) (fun h_13 => ?_)
          · refine lv_iconst (v := 0) hx hb dX6_saying_178 (by decide) ?_
            have hJ := J_12; (repeat rw [if_neg h_13] at hJ)
            first | exact hJ _ _ ⟨f_s, hS, hZ⟩ ls (lv_sub hl [0, 1, 2, 3, 4, 5, 6] rfl) | ((repeat rw [if_neg h_13] at hl); (repeat rw [if_neg h_13]); exact hJ _ _ ⟨f_s, hS, hZ⟩ ls (lv_sub hl [0, 1, 2, 3, 4, 5, 6] rfl))
          · refine lv_iconst (v := 1) hx hb dX6_saying_174 (by decide) ?_
            refine lv_goto (tgt := 179) hx hb dX6_saying_175 (by decide) ?_
            have hJ := J_12; (repeat rw [if_pos h_13] at hJ)
            first | exact hJ _ _ ⟨f_s, hS, hZ⟩ ls (lv_sub hl [0, 1, 2, 3, 4, 5, 6] rfl) | ((repeat rw [if_pos h_13] at hl); (repeat rw [if_pos h_13]); exact hJ _ _ ⟨f_s, hS, hZ⟩ ls (lv_sub hl [0, 1, 2, 3, 4, 5, 6] rfl))
    · refine lv_aload_n hx hb dX6_saying_53 rfl (lv_at hl 1 rfl) ?_
      refine lv_iload hx hb dX6_saying_54 (lv_at hl 0 rfl) ?_
      refine lv_bipush (v := 8) hx hb dX6_saying_56 (by decide +kernel) ?_
      refine lv_irem hx hb dX6_saying_58 (by decide) ?_
      refine lv_iload_n hx hb dX6_saying_59 rfl (lv_at hl 3 rfl) ?_
      refine lv_iload_n hx hb dX6_saying_60 rfl (lv_at hl 4 rfl) ?_
      refine ro_call (va_runV (As := [.int (((mS x) (nI k).toNatClampNeg) - ((mS x) (nI k).toNatClampNeg) / 8 * 8), .int aa, .int gg]) (rest := []) hC (c_X6_letter l G M x (((mS x) (nI k).toNatClampNeg) - ((mS x) (nI k).toNatClampNeg) / 8 * 8) aa gg hI hO (ib.weak iA (by decide) (by decide))) (cwV 3 hts gX6_saying_X6_letter rfl rfl rfl kd_X6_letter ⟨Nat.le_of_ble_eq_true rfl, Nat.le_of_ble_eq_true rfl⟩) (ro_preV hK (MTr.to f_s).1 rfl (MTr.to f_s)) rfl rfl hl.1 rfl (lv_room (Nat.le_of_ble_eq_true rfl)) dX6_saying_61 ⟨Nat.zero_le _, Nat.zero_le _⟩) ?_
      refine lv_istore (lv' := [(7, .int (r_letter x (((mS x) (nI k).toNatClampNeg) - ((mS x) (nI k).toNatClampNeg) / 8 * 8) aa gg)), (6, .int ((mS x) (nI k).toNatClampNeg)), (0, .ref (M 0)), (1, .int (nI ln)), (2, .int aa), (3, .int gg), (4, .int tp), (5, .int (nI k))]) hx hb dX6_saying_64 hl (by decide) rfl (fun ls hl => ?_)
      refine lv_iload hx hb dX6_saying_66 (lv_at hl 1 rfl) ?_
      refine lv_bipush (v := 8) hx hb dX6_saying_68 (by decide +kernel) ?_
      refine lv_idiv hx hb dX6_saying_70 (by decide) ?_
      refine lv_iconst (v := 4) hx hb dX6_saying_71 (by decide) ?_
      refine lv_irem hx hb dX6_saying_72 (by decide) ?_
      refine lv_istore (lv' := [(8, .int ((((mS x) (nI k).toNatClampNeg) / 8) - (((mS x) (nI k).toNatClampNeg) / 8) / 4 * 4)), (7, .int (r_letter x (((mS x) (nI k).toNatClampNeg) - ((mS x) (nI k).toNatClampNeg) / 8 * 8) aa gg)), (6, .int ((mS x) (nI k).toNatClampNeg)), (0, .ref (M 0)), (1, .int (nI ln)), (2, .int aa), (3, .int gg), (4, .int tp), (5, .int (nI k))]) hx hb dX6_saying_73 hl (by decide) rfl (fun ls hl => ?_)
      refine lv_iload hx hb dX6_saying_75 (lv_at hl 2 rfl) ?_
      refine lv_bipush (v := 32) hx hb dX6_saying_77 (by decide +kernel) ?_
      refine lv_idiv hx hb dX6_saying_79 (by decide) ?_
      refine lv_istore (lv' := [(9, .int (((mS x) (nI k).toNatClampNeg) / 32)), (8, .int ((((mS x) (nI k).toNatClampNeg) / 8) - (((mS x) (nI k).toNatClampNeg) / 8) / 4 * 4)), (7, .int (r_letter x (((mS x) (nI k).toNatClampNeg) - ((mS x) (nI k).toNatClampNeg) / 8 * 8) aa gg)), (6, .int ((mS x) (nI k).toNatClampNeg)), (0, .ref (M 0)), (1, .int (nI ln)), (2, .int aa), (3, .int gg), (4, .int tp), (5, .int (nI k))]) hx hb dX6_saying_80 hl (by decide) rfl (fun ls hl => ?_)
      refine lv_aload_n hx hb dX6_saying_82 rfl (lv_at hl 4 rfl) ?_
      refine r_get (C := RX6) (T := TX6) (N := 18) hx hb hts i_X6_saying_X6 hown hK (MTr.to f_s).1 rfl 9 (by decide) k_X6_saying_fieldLink_18 rfl rfl dX6_saying_83 ?_
      refine lv_iload hx hb dX6_saying_86 (lv_at hl 8 rfl) ?_
      refine lv_iload hx hb dX6_saying_88 (lv_at hl 1 rfl) ?_
      refine join_wr (nL := 10) 141 [(9, .int (((mS x) (nI k).toNatClampNeg) / 32)), (8, .int ((((mS x) (nI k).toNatClampNeg) / 8) - (((mS x) (nI k).toNatClampNeg) / 8) / 4 * 4)), (7, .int (r_letter x (((mS x) (nI k).toNatClampNeg) - ((mS x) (nI k).toNatClampNeg) / 8 * 8) aa gg)), (6, .int ((mS x) (nI k).toNatClampNeg)), (0, .ref (M 0)), (1, .int (nI ln)), (2, .int aa), (3, .int gg), (4, .int tp), (5, .int (nI k))] [.int (b2i (if (((mS x) (nI k).toNatClampNeg) / 8) - (((mS x) (nI k).toNatClampNeg) / 8) / 4 * 4 = 0 then if (((mS x) (nI k).toNatClampNeg) / 32) ≤ (r_letter x (((mS x) (nI k).toNatClampNeg) - ((mS x) (nI k).toNatClampNeg) / 8 * 8) aa gg) then false else true else if ((((mS x) (nI k).toNatClampNeg) / 8) - (((mS x) (nI k).toNatClampNeg) / 8) / 4 * 4) = 1 then if (r_letter x (((mS x) (nI k).toNatClampNeg) - ((mS x) (nI k).toNatClampNeg) / 8 * 8) aa gg) = (((mS x) (nI k).toNatClampNeg) / 32) then true else false else if (r_letter x (((mS x) (nI k).toNatClampNeg) - ((mS x) (nI k).toNatClampNeg) / 8 * 8) aa gg) ≤ (((mS x) (nI k).toNatClampNeg) / 32) then false else true)), .int tp, .ref (M 3)] (fun H locs => (MTr G M x Tr_k H) ∧ wS (m3 M) s.heap H locs ∧ True) (fun H locs hI ls hl => ?_) (fun J_14 => ?_)
      · obtain ⟨f_s, hS, hZ⟩ := hI
        refine w_zast hx hb hK f_s.2.2.2.1 hS rfl (vp_ib (wfX.push hX9 hlt_k (by assumption)).1 (by decide) (by decide)) dX6_saying_141 (fun H locs hn hq hS => ?_)
        have f_s : MTr G M x (upd Tr_k tp.toNatClampNeg (vp_nar .boolean (b2i (if (((mS x) (nI k).toNatClampNeg) / 8) - (((mS x) (nI k).toNatClampNeg) / 8) / 4 * 4 = 0 then if (((mS x) (nI k).toNatClampNeg) / 32) ≤ (r_letter x (((mS x) (nI k).toNatClampNeg) - ((mS x) (nI k).toNatClampNeg) / 8 * 8) aa gg) then false else true else if ((((mS x) (nI k).toNatClampNeg) / 8) - (((mS x) (nI k).toNatClampNeg) / 8) / 4 * 4) = 1 then if (r_letter x (((mS x) (nI k).toNatClampNeg) - ((mS x) (nI k).toNatClampNeg) / 8 * 8) aa gg) = (((mS x) (nI k).toNatClampNeg) / 32) then true else false else if (r_letter x (((mS x) (nI k).toNatClampNeg) - ((mS x) (nI k).toNatClampNeg) / 8 * 8) aa gg) ≤ (((mS x) (nI k).toNatClampNeg) / 32) then false else true)))) H := f_s.put hN hn hq
        refine lv_iinc (v := tp + 1) (lv' := [(4, .int (tp + 1)), (9, .int (((mS x) (nI k).toNatClampNeg) / 32)), (8, .int ((((mS x) (nI k).toNatClampNeg) / 8) - (((mS x) (nI k).toNatClampNeg) / 8) / 4 * 4)), (7, .int (r_letter x (((mS x) (nI k).toNatClampNeg) - ((mS x) (nI k).toNatClampNeg) / 8 * 8) aa gg)), (6, .int ((mS x) (nI k).toNatClampNeg)), (0, .ref (M 0)), (1, .int (nI ln)), (2, .int aa), (3, .int gg), (5, .int (nI k))]) hx hb dX6_saying_142 hl (k := 8) rfl rfl (by decide) rfl (fun ls hl => ?_)
        refine lv_goto (tgt := 287) hx hb dX6_saying_145 (by decide) ?_
        refine lv_iinc (v := (nI k) + 1) (lv' := [(5, .int ((nI k) + 1)), (4, .int (tp + 1)), (9, .int (((mS x) (nI k).toNatClampNeg) / 32)), (8, .int ((((mS x) (nI k).toNatClampNeg) / 8) - (((mS x) (nI k).toNatClampNeg) / 8) / 4 * 4)), (7, .int (r_letter x (((mS x) (nI k).toNatClampNeg) - ((mS x) (nI k).toNatClampNeg) / 8 * 8) aa gg)), (6, .int ((mS x) (nI k).toNatClampNeg)), (0, .ref (M 0)), (1, .int (nI ln)), (2, .int aa), (3, .int gg)]) hx hb dX6_saying_287 hl (k := 9) rfl rfl (by decide) rfl (fun ls hl => ?_)
        refine lv_goto (tgt := 14) hx hb dX6_saying_290 (by decide) ?_
        have hE : r_sayGo x ln aa gg n9 (k + 1) (tp + 1) (upd Tr_k tp.toNatClampNeg (vp_nar .boolean (b2i (if (((mS x) (nI k).toNatClampNeg) / 8) - (((mS x) (nI k).toNatClampNeg) / 8) / 4 * 4 = 0 then if (((mS x) (nI k).toNatClampNeg) / 32) ≤ (r_letter x (((mS x) (nI k).toNatClampNeg) - ((mS x) (nI k).toNatClampNeg) / 8 * 8) aa gg) then false else true else if ((((mS x) (nI k).toNatClampNeg) / 8) - (((mS x) (nI k).toNatClampNeg) / 8) / 4 * 4) = 1 then if (r_letter x (((mS x) (nI k).toNatClampNeg) - ((mS x) (nI k).toNatClampNeg) / 8 * 8) aa gg) = (((mS x) (nI k).toNatClampNeg) / 32) then true else false else if (r_letter x (((mS x) (nI k).toNatClampNeg) - ((mS x) (nI k).toNatClampNeg) / 8 * 8) aa gg) ≤ (((mS x) (nI k).toNatClampNeg) / 32) then false else true)))) = r_sayGo x ln aa gg ((794 + 140 * ln + ((mS x) (786 + (nI ln)).toNatClampNeg).toNatClampNeg) - (794 + 140 * ln)) (794 + 140 * ln) 0 Tr := (by rw [← hV, r_sayGo_s]; (repeat rw [if_neg h_2]); first | done | rfl)
        refine ih_k ((k + 1, tp + 1, (upd Tr_k tp.toNatClampNeg (vp_nar .boolean (b2i (if (((mS x) (nI k).toNatClampNeg) / 8) - (((mS x) (nI k).toNatClampNeg) / 8) / 4 * 4 = 0 then if (((mS x) (nI k).toNatClampNeg) / 32) ≤ (r_letter x (((mS x) (nI k).toNatClampNeg) - ((mS x) (nI k).toNatClampNeg) / 8 * 8) aa gg) then false else true else if ((((mS x) (nI k).toNatClampNeg) / 8) - (((mS x) (nI k).toNatClampNeg) / 8) / 4 * 4) = 1 then if (r_letter x (((mS x) (nI k).toNatClampNeg) - ((mS x) (nI k).toNatClampNeg) / 8 * 8) aa gg) = (((mS x) (nI k).toNatClampNeg) / 32) then true else false else if (r_letter x (((mS x) (nI k).toNatClampNeg) - ((mS x) (nI k).toNatClampNeg) / 8 * 8) aa gg) ≤ (((mS x) (nI k).toNatClampNeg) / 32) then false else true)))))) _ _ ⟨⟨⟨(show k + 1 ≤ (794 + 140 * ln + ((mS x) (786 + (nI ln)).toNatClampNeg).toNatClampNeg) by omega), (by show r_sayGo x ln aa gg ((794 + 140 * ln + ((mS x) (786 + (nI ln)).toNatClampNeg).toNatClampNeg) - (k + 1)) (k + 1) (tp + 1) (upd Tr_k tp.toNatClampNeg (vp_nar .boolean (b2i (if (((mS x) (nI k).toNatClampNeg) / 8) - (((mS x) (nI k).toNatClampNeg) / 8) / 4 * 4 = 0 then if (((mS x) (nI k).toNatClampNeg) / 32) ≤ (r_letter x (((mS x) (nI k).toNatClampNeg) - ((mS x) (nI k).toNatClampNeg) / 8 * 8) aa gg) then false else true else if ((((mS x) (nI k).toNatClampNeg) / 8) - (((mS x) (nI k).toNatClampNeg) / 8) / 4 * 4) = 1 then if (r_letter x (((mS x) (nI k).toNatClampNeg) - ((mS x) (nI k).toNatClampNeg) / 8 * 8) aa gg) = (((mS x) (nI k).toNatClampNeg) / 32) then true else false else if (r_letter x (((mS x) (nI k).toNatClampNeg) - ((mS x) (nI k).toNatClampNeg) / 8 * 8) aa gg) ≤ (((mS x) (nI k).toNatClampNeg) / 32) then false else true)))) = _; rw [show (794 + 140 * ln + ((mS x) (786 + (nI ln)).toNatClampNeg).toNatClampNeg) - (k + 1) = n9 by omega]; exact hE)⟩, (wfX.push hX9 hlt_k (by assumption)).2⟩, f_s, hS, hZ⟩ (show (794 + 140 * ln + ((mS x) (786 + (nI ln)).toNatClampNeg).toNatClampNeg) - (k + 1) < (794 + 140 * ln + ((mS x) (786 + (nI ln)).toNatClampNeg).toNatClampNeg) - k by omega) ls ?_
        show lv_has ls 10 [(0, .ref (M 0)), (1, .int (nI ln)), (2, .int aa), (3, .int gg), (4, .int (tp + 1)), (5, .int (nI (k + 1)))]
        rw [nI_succ]
        exact lv_sub hl [6, 7, 8, 9, 1, 0] rfl
      · refine lv_if_ne (tgt := 108) hx hb dX6_saying_90 (by decide) (fun h_15 => ?_) (fun h_15 => ?_)
        · refine lv_iload hx hb dX6_saying_108 (lv_at hl 1 rfl) ?_
          refine lv_iconst (v := 1) hx hb dX6_saying_110 (by decide) ?_
          refine lv_icmp_ne (tgt := 129) hx hb dX6_saying_111 (by decide) (fun h_16 => ?_) (fun h_16 => ?_)
          · refine lv_iload hx hb dX6_saying_129 (lv_at hl 2 rfl) ?_
            refine lv_iload hx hb dX6_saying_131 (lv_at hl 0 rfl) ?_
            refine lv_icmp_le (tgt := 140) hx hb dX6_saying_133 (by decide) (fun h_17 => ?_) (fun h_17 => ?_)
            · refine lv_iconst (v := 0) hx hb dX6_saying_140 (by decide) ?_
              have hJ := J_14; (repeat rw [if_neg h_15] at hJ); (repeat rw [if_neg h_16] at hJ); (repeat rw [if_pos h_17] at hJ)
              first | exact hJ _ _ ⟨f_s, hS, hZ⟩ ls (lv_sub hl [0, 1, 2, 3, 4, 5, 6, 7, 8, 9] rfl) | ((repeat rw [if_neg h_15] at hl); (repeat rw [if_neg h_16] at hl); (repeat rw [if_pos h_17] at hl); (repeat rw [if_neg h_15]); (repeat rw [if_neg h_16]); (repeat rw [if_pos h_17]); exact hJ _ _ ⟨f_s, hS, hZ⟩ ls (lv_sub hl [0, 1, 2, 3, 4, 5, 6, 7, 8, 9] rfl))
            · refine lv_iconst (v := 1) hx hb dX6_saying_136 (by decide) ?_
              refine lv_goto (tgt := 141) hx hb dX6_saying_137 (by decide) ?_
              have hJ := J_14; (repeat rw [if_neg h_15] at hJ); (repeat rw [if_neg h_16] at hJ); (repeat rw [if_neg h_17] at hJ)
              first | exact hJ _ _ ⟨f_s, hS, hZ⟩ ls (lv_sub hl [0, 1, 2, 3, 4, 5, 6, 7, 8, 9] rfl) | ((repeat rw [if_neg h_15] at hl); (repeat rw [if_neg h_16] at hl); (repeat rw [if_neg h_17] at hl); (repeat rw [if_neg h_15]); (repeat rw [if_neg h_16]); (repeat rw [if_neg h_17]); exact hJ _ _ ⟨f_s, hS, hZ⟩ ls (lv_sub hl [0, 1, 2, 3, 4, 5, 6, 7, 8, 9] rfl))
          · refine lv_iload hx hb dX6_saying_114 (lv_at hl 2 rfl) ?_
            refine lv_iload hx hb dX6_saying_116 (lv_at hl 0 rfl) ?_
            refine lv_icmp_ne (tgt := 125) hx hb dX6_saying_118 (by decide) (fun h_18 => ?_) (fun h_18 => ?_)
            · refine lv_iconst (v := 0) hx hb dX6_saying_125 (by decide) ?_
              refine lv_goto (tgt := 141) hx hb dX6_saying_126 (by decide) ?_
              have hJ := J_14; (repeat rw [if_neg h_15] at hJ); (repeat rw [if_pos h_16] at hJ); (repeat rw [if_neg h_18] at hJ)
              first | exact hJ _ _ ⟨f_s, hS, hZ⟩ ls (lv_sub hl [0, 1, 2, 3, 4, 5, 6, 7, 8, 9] rfl) | ((repeat rw [if_neg h_15] at hl); (repeat rw [if_pos h_16] at hl); (repeat rw [if_neg h_18] at hl); (repeat rw [if_neg h_15]); (repeat rw [if_pos h_16]); (repeat rw [if_neg h_18]); exact hJ _ _ ⟨f_s, hS, hZ⟩ ls (lv_sub hl [0, 1, 2, 3, 4, 5, 6, 7, 8, 9] rfl))
            · refine lv_iconst (v := 1) hx hb dX6_saying_121 (by decide) ?_
              refine lv_goto (tgt := 141) hx hb dX6_saying_122 (by decide) ?_
              have hJ := J_14; (repeat rw [if_neg h_15] at hJ); (repeat rw [if_pos h_16] at hJ); (repeat rw [if_pos h_18] at hJ)
              first | exact hJ _ _ ⟨f_s, hS, hZ⟩ ls (lv_sub hl [0, 1, 2, 3, 4, 5, 6, 7, 8, 9] rfl) | ((repeat rw [if_neg h_15] at hl); (repeat rw [if_pos h_16] at hl); (repeat rw [if_pos h_18] at hl); (repeat rw [if_neg h_15]); (repeat rw [if_pos h_16]); (repeat rw [if_pos h_18]); exact hJ _ _ ⟨f_s, hS, hZ⟩ ls (lv_sub hl [0, 1, 2, 3, 4, 5, 6, 7, 8, 9] rfl))
        · refine lv_iload hx hb dX6_saying_93 (lv_at hl 2 rfl) ?_
          refine lv_iload hx hb dX6_saying_95 (lv_at hl 0 rfl) ?_
          refine lv_icmp_ge (tgt := 104) hx hb dX6_saying_97 (by decide) (fun h_19 => ?_) (fun h_19 => ?_)
          · refine lv_iconst (v := 0) hx hb dX6_saying_104 (by decide) ?_
            refine lv_goto (tgt := 141) hx hb dX6_saying_105 (by decide) ?_
            have hJ := J_14; (repeat rw [if_pos h_15] at hJ); (repeat rw [if_pos h_19] at hJ)
            first | exact hJ _ _ ⟨f_s, hS, hZ⟩ ls (lv_sub hl [0, 1, 2, 3, 4, 5, 6, 7, 8, 9] rfl) | ((repeat rw [if_pos h_15] at hl); (repeat rw [if_pos h_19] at hl); (repeat rw [if_pos h_15]); (repeat rw [if_pos h_19]); exact hJ _ _ ⟨f_s, hS, hZ⟩ ls (lv_sub hl [0, 1, 2, 3, 4, 5, 6, 7, 8, 9] rfl))
          · refine lv_iconst (v := 1) hx hb dX6_saying_100 (by decide) ?_
            refine lv_goto (tgt := 141) hx hb dX6_saying_101 (by decide) ?_
            have hJ := J_14; (repeat rw [if_pos h_15] at hJ); (repeat rw [if_neg h_19] at hJ)
            first | exact hJ _ _ ⟨f_s, hS, hZ⟩ ls (lv_sub hl [0, 1, 2, 3, 4, 5, 6, 7, 8, 9] rfl) | ((repeat rw [if_pos h_15] at hl); (repeat rw [if_neg h_19] at hl); (repeat rw [if_pos h_15]); (repeat rw [if_neg h_19]); exact hJ _ _ ⟨f_s, hS, hZ⟩ ls (lv_sub hl [0, 1, 2, 3, 4, 5, 6, 7, 8, 9] rfl))
theorem c2_X6_saying (l : Launch) (G : GG) (M : Nat → Nat) (x : MT) (Tr : Nat → Int32) (ln : Nat) (aa gg : Int32)  (hI : mI (mS x)) (hO : mO (mS x)) (hN : mN M) (hln : ln < 8) (iA : ib 0 15 aa) (hW : wfGo (mS x) (794 + 140 * ln + ((mS x) (786 + (nI ln)).toNatClampNeg).toNatClampNeg - (794 + 140 * ln)) (794 + 140 * ln) 0) (r9 : Int32) (Tr9 : Nat → Int32) (hy9 : r_saying x Tr ln aa gg = (r9, Tr9)) : Met l yX6_saying wsX6_saying { frames := 1, cells := 0, slots := 0, locals := 23 } (roP G [.ref (M 0), .int (nI ln), .int aa, .int gg] (fun H => MTr G M x Tr H)) (wrQ (some (.int r9)) (fun H => MTr G M x Tr9 H) (m3 M)) 0 0 (m3 M) := by
  have h9 := c_X6_saying l G M x Tr ln aa gg hI hO hN hln iA hW
  rw [hy9] at h9
  exact h9
/-- a test of the reference's steps -/
def tst (x : MT) (aa gg st : Int32) : Bool := if st / 8 - st / 8 / 4 * 4 = 0 then if st / 32 ≤ r_letter x (st - st / 8 * 8) aa gg then false else true else if st / 8 - st / 8 / 4 * 4 = 1 then if r_letter x (st - st / 8 * 8) aa gg = st / 32 then true else false else if r_letter x (st - st / 8 * 8) aa gg ≤ st / 32 then false else true
/-- what the reference's steps say, its truths as a list, the last first -/
def sayL (x : MT) (aa gg : Int32) : Nat → Nat → List Bool → Int32
  | 0, _, _ => -1
  | n + 1, k, L => if mS x (nI k).toNatClampNeg < 0 then (if mS x (nI k).toNatClampNeg = -1 then sayL x aa gg n (k + 1) ((!(L.getD 0 false)) :: L.tail) else if mS x (nI k).toNatClampNeg ≤ -10 then (if L.getD 0 false = true then -10 - mS x (nI k).toNatClampNeg else sayL x aa gg n (k + 1) []) else sayL x aa gg n (k + 1) ((if mS x (nI k).toNatClampNeg = -2 then L.getD 1 false && L.getD 0 false else L.getD 1 false || L.getD 0 false) :: L.tail.tail)) else sayL x aa gg n (k + 1) (tst x aa gg (mS x (nI k).toNatClampNeg) :: L)
def trR (Tr : Nat → Int32) : List Bool → Prop
  | [] => True
  | b :: L => Tr L.length = b2i b ∧ trR Tr L
theorem trR_upd {Tr : Nat → Int32} {v : Int32} : ∀ {L : List Bool} {j : Nat}, trR Tr L → L.length ≤ j → trR (upd Tr j v) L
  | [], _, _, _ => trivial
  | b :: L, j, h, hj => by
    have hj : L.length + 1 ≤ j := hj
    refine ⟨?_, trR_upd h.2 (by omega)⟩
    unfold upd
    rw [if_neg (by omega)]
    exact h.1
theorem upd_at (f : Nat → Int32) (j : Nat) (v : Int32) : upd f j v j = v := by unfold upd; rw [if_pos rfl]
theorem saying_eq (x : MT) (ln : Nat) (aa gg : Int32) : ∀ (n k : Nat) (L : List Bool) (Tr : Nat → Int32), L.length ≤ 13 → wfGo (mS x) n k L.length → trR Tr L → (r_sayGo x ln aa gg n k (nI L.length) Tr).1 = sayL x aa gg n k L
  | 0, k, L, Tr, _, _, _ => rfl
  | n + 1, k, L, Tr, h13, hw, hr => by
    rw [r_sayGo_s]
    unfold sayL
    unfold wfGo at hw
    by_cases h1 : mS x (nI k).toNatClampNeg < 0
    · rw [if_pos h1, if_pos h1]
      rw [if_pos h1] at hw
      by_cases h2 : mS x (nI k).toNatClampNeg = -1
      · rw [if_pos h2, if_pos h2]
        rw [if_pos h2] at hw
        match L, hw, hr, h13 with
        | b :: L, hw, hr, h13 =>
          have e1 : (nI (L.length + 1) - 1).toNatClampNeg = L.length := by
            rw [Int32.sub_eq_add_neg, show -(1 : Int32) = -1 from rfl, nI_m1 _ (by omega), Nat.add_sub_cancel]
            exact nI_clamp (by have : L.length + 1 ≤ 13 := h13; omega)
          have e1 : (nI (b :: L).length - 1).toNatClampNeg = L.length := e1
          rw [e1, hr.1]
          have e2 : b2i (if b2i b = 0 then true else false) = b2i (!b) := by cases b <;> rfl
          rw [e2, b2i_narZ]
          exact saying_eq x ln aa gg n (k + 1) ((!b) :: L) _ h13 hw.2 ⟨upd_at _ _ _, trR_upd hr.2 (Nat.le_refl _)⟩
      · rw [if_neg h2, if_neg h2]
        rw [if_neg h2] at hw
        by_cases h3 : mS x (nI k).toNatClampNeg ≤ -10
        · rw [if_pos h3, if_pos h3]
          rw [if_pos h3] at hw
          match L, hw, hr, h13 with
          | [b], hw, hr, h13 =>
            have e3 : Tr (0 : Int32).toNatClampNeg = b2i b := hr.1
            rw [e3]
            cases b with
            | false => exact saying_eq x ln aa gg n (k + 1) [] Tr (by decide) hw.2 trivial
            | true => rfl
        · rw [if_neg h3, if_neg h3]
          rw [if_neg h3] at hw
          match L, hw, hr, h13 with
          | [], hw, _, _ => exact absurd hw.1 (by simp)
          | [_], hw, _, _ => exact absurd hw.1 (by simp)
          | b :: a :: L, hw, hr, h13 =>
            have h13' : L.length + 2 ≤ 13 := h13
            have e0 : nI (b :: a :: L).length + (-1) = nI (L.length + 1) := nI_m1 (L.length + 2) (by omega)
            have e1 : (nI (L.length + 1) - 1).toNatClampNeg = L.length := by
              rw [Int32.sub_eq_add_neg, show -(1 : Int32) = -1 from rfl, nI_m1 _ (by omega), Nat.add_sub_cancel]
              exact nI_clamp (by omega)
            have e2 : (nI (L.length + 1)).toNatClampNeg = L.length + 1 := nI_clamp (by omega)
            have g0 : Tr (L.length + 1) = b2i b := hr.1
            rw [e0, e1, e2, hr.2.1, g0]
            have e4 : ∀ w : Int32, b2i (if w = -2 then if b2i a = 0 then false else if b2i b = 0 then false else true else if b2i a = 0 then if b2i b = 0 then false else true else true) = b2i (if w = -2 then a && b else a || b) := by
              intro w
              cases a <;> cases b <;> (by_cases q : w = -2) <;> simp [q, b2i]
            rw [e4, b2i_narZ]
            refine saying_eq x ln aa gg n (k + 1) ((if mS x (nI k).toNatClampNeg = -2 then a && b else a || b) :: L) _ (show L.length + 1 ≤ 13 by omega) hw.2 ⟨upd_at _ _ _, trR_upd hr.2.2 (Nat.le_refl _)⟩
    · rw [if_neg h1, if_neg h1]
      rw [if_neg h1] at hw
      have e1 : (nI L.length).toNatClampNeg = L.length := nI_clamp (by omega)
      rw [e1, b2i_narZ, ← nI_succ]
      exact saying_eq x ln aa gg n (k + 1) (tst x aa gg (mS x (nI k).toNatClampNeg) :: L) _ (by have := hw.1; show L.length + 1 ≤ 13; omega) hw.2 ⟨upd_at _ _ _, trR_upd hr (Nat.le_refl _)⟩
/-- the law's steps can be gone over -/
def wfL (s : Nat → Int32) (ln : Nat) : Prop := wfGo s (s (786 + nI ln).toNatClampNeg).toNatClampNeg (794 + 140 * ln) 0
def mW (s : Nat → Int32) : Prop := ∀ ln : Nat, (ln : Int) < (s 3).toInt → wfL s ln
def sayV (x : MT) (ll aa gg : Int32) : Int32 := sayL x aa gg (mS x (786 + ll).toNatClampNeg).toNatClampNeg (794 + 140 * ll.toNatClampNeg) []
theorem c3_X6_saying (l : Launch) (G : GG) (M : Nat → Nat) (x : MT) (ll aa gg : Int32) (hI : mI (mS x)) (hO : mO (mS x)) (hN : mN M) (iL : ib 0 7 ll) (iA : ib 0 15 aa) (hW : wfL (mS x) ll.toNatClampNeg) : Met l yX6_saying wsX6_saying { frames := 1, cells := 0, slots := 0, locals := 23 } (roP G [.ref (M 0), .int ll, .int aa, .int gg] (fun H => MAt G M x H)) (wrQ (some (.int (sayV x ll aa gg))) (fun H => MAt G M x H) (m3 M)) 0 0 (m3 M) := by
  obtain ⟨n, rfl, h1, h2⟩ := iL.nI_eq (by decide)
  have e := nI_clamp (n := n) (by omega)
  rw [e] at hW
  have e9 : ∀ a b : Nat, a + b - a = b := fun a b => by omega
  refine met_ex (fun Tr => c_X6_saying l G M x Tr n aa gg hI hO hN (by omega) iA (by rw [e9]; exact hW)) (fun Tr => ?_) (fun H h => h.tr) (fun Tr H h => h.to)
  unfold r_saying sayV
  rw [e, e9, show (0 : Int32) = nI ([] : List Bool).length from rfl, saying_eq x n aa gg _ _ [] Tr (by decide) hW trivial]

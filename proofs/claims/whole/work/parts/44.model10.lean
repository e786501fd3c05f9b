theorem ib_lit {a b : Int} {n : Nat} (hn : n < 2 ^ 31) (h1 : a ≤ n) (h2 : n ≤ b) : ib a b (nI n) := (ib_nI hn).weak h1 h2
theorem ib_if {c : Prop} [Decidable c] {lo hi : Int} {a b : Int32} (h1 : ib lo hi a) (h2 : ib lo hi b) : ib lo hi (if c then a else b) := by
  split
  · exact h1
  · exact h2
theorem ib_0 : ib 0 2 (0 : Int32) := ⟨by decide, by decide⟩
theorem ib_1 : ib 0 2 (1 : Int32) := ⟨by decide, by decide⟩
theorem ib_2 : ib 0 2 (2 : Int32) := ⟨by decide, by decide⟩
theorem byLooks_ib (x : MT) (aa vv : Int32) : ib 0 2 (r_byLooks x aa vv) := by
  unfold r_byLooks
  exact ib_if (ib_if ib_1 ib_0) ib_2
theorem byKeeping_ib {x : MT} (hI : mI (mS x)) {aa : Int32} (iA : ib 0 15 aa) (kp : Bool) : ib 0 2 (r_byKeeping x aa kp) := by
  unfold r_byKeeping
  have h : ib (-1) 1 ((mS x) (266 + aa).toNatClampNeg) := mI.at (lo := 266) (hi := 281) (x := -1) (y := 1) hI (ib_add (ib_nI (n := 266) (by decide)) iA (by decide) (by decide)) (by decide) (by decide) (by decide)
  exact ib_if (ib_add h (ib_nI (n := 1) (by decide)) (by decide) (by decide)) (byLooks_ib x aa 0)
theorem asked_ib {x : MT} {aa tt : Int32} (h : ib 0 2 tt) : ib 0 2 (r_asked x aa tt) := by
  unfold r_asked
  exact ib_if (ib_if (byLooks_ib x aa 0) h) h
theorem byKind_ib {x : MT} (hI : mI (mS x)) {ll cc aa gg : Int32} (iA : ib 0 15 aa) : ib 0 2 (r_byKind x ll cc aa gg) := by
  unfold r_byKind
  refine ib_if (byLooks_ib _ _ _) (ib_if (byKeeping_ib hI iA _) (ib_if (asked_ib (byKeeping_ib hI iA _)) (ib_if (ib_if ?_ (byLooks_ib _ _ _)) (ib_if (byKeeping_ib hI iA _) (ib_if (asked_ib (byKeeping_ib hI iA _)) ib_1)))))
  exact ib_sub (a := 2) (b := 2) (ib_nI (n := 2) (by decide)) (byLooks_ib _ _ _) (by decide) (by decide)
theorem ib_sayd {s : Int32} (h : ib (-12) 33000 s) (h2 : s ≤ -10) : ib 0 2 (-10 - s) := by
  have c4 : s.toInt ≤ -10 := Int32.le_iff_toInt_le.mp h2
  have e10 : (-10 : Int32).toInt = -10 := by decide
  have e : (-10 - s).toInt = -10 - s.toInt := by
    rw [Int32.toInt_sub, e10]
    have := h.1
    exact Int.bmod_eq_of_le (by omega) (by omega)
  have := h.1
  exact ⟨by rw [e]; omega, by rw [e]; omega⟩
theorem sayL_ib {x : MT} (hI : mI (mS x)) (aa gg : Int32) : ∀ (n k : Nat) (L : List Bool), 794 ≤ k → k + n ≤ 1914 → sayL x aa gg n k L = -1 ∨ ib 0 2 (sayL x aa gg n k L)
  | 0, _, _, _, _ => .inl rfl
  | n + 1, k, L, h1, h2 => by
    have ih := fun L => sayL_ib hI aa gg n (k + 1) L (by omega) (by omega)
    have hs : ib (-12) 33000 (mS x (nI k).toNatClampNeg) := by
      rw [nI_clamp (by omega)]
      exact hI k (794, 1913, -12, 33000) (by decide) h1 (show k ≤ 1913 by omega)
    unfold sayL
    by_cases c1 : mS x (nI k).toNatClampNeg < 0
    · rw [if_pos c1]
      by_cases c2 : mS x (nI k).toNatClampNeg = -1
      · rw [if_pos c2]; exact ih _
      · rw [if_neg c2]
        by_cases c3 : mS x (nI k).toNatClampNeg ≤ -10
        · rw [if_pos c3]
          split
          · right
            exact ib_sayd hs c3
          · exact ih _
        · rw [if_neg c3]; exact ih _
    · rw [if_neg c1]; exact ih _
theorem tells_ib {x : MT} (hI : mI (mS x)) {ll cc aa gg : Int32} (iL : ib 0 7 ll) (iA : ib 0 15 aa) : ib 0 2 (r_tellsOf x ll cc aa gg) := by
  unfold r_tellsOf
  obtain ⟨n, rfl, h1, h2⟩ := iL.nI_eq (by decide)
  have e : (nI n).toNatClampNeg = n := nI_clamp (by omega)
  have hm : ib 0 120 (mS x (786 + nI n).toNatClampNeg) := mI.at (lo := 786) (hi := 793) (x := 0) (y := 120) hI (ib_add (ib_nI (n := 786) (by decide)) iL (by decide) (by decide)) (by decide) (by decide) (by decide)
  have hm2 := (hm.clamp (by decide)).2
  have hs : sayV x (nI n) aa gg = -1 ∨ ib 0 2 (sayV x (nI n) aa gg) := by
    unfold sayV
    rw [e]
    exact sayL_ib hI aa gg _ _ _ (by omega) (by omega)
  rcases hs with hs | hs
  · rw [hs]
    exact byKind_ib hI iA
  · split
    · exact byKind_ib hI iA
    · exact hs
def MHe (G : GG) (M : Nat → Nat) (x : MT) (He : Nat → Int32) (H : Heap) : Prop := oA G (M 0) 6 [.int (mTh x), .ref (M 1), .ref (M 2), .int (b2i (mHi x)), .int (mAc x), .int (mSp x), .int (mEn x), .int (b2i (mWr x)), .int (mOp x), .ref (M 3), .ref (M 4), .long (mAl x), .long (mSa x), .ref (M 5), .int (mRa x), .int (mKi x), .int (mNu x), .int (mTv x)] H ∧ iA G 1 (M 1) 1920 (mS x) H ∧ iA G 1 (M 2) 1920 (mIm x) H ∧ (∃ f : Nat → Int32, iA G 2 (M 3) 64 f H) ∧ iA G 1 (M 4) 3 He H ∧ iA G 1 (M 5) 20 (mBo x) H
def m34 (M : Nat → Nat) : Nat → Prop := fun q => q = M 3 ∨ q = M 4
theorem MHe.to {G : GG} {M : Nat → Nat} {x : MT} {He : Nat → Int32} {H : Heap} (h : MHe G M x He H) : MAt G M x H := ⟨h.1, h.2.1, h.2.2.1, h.2.2.2.1, ⟨He, h.2.2.2.2.1⟩, h.2.2.2.2.2⟩
theorem MHe.of {G : GG} {M : Nat → Nat} {x : MT} {He : Nat → Int32} {H : Heap} (h : MAt G M x H) (h4 : iA G 1 (M 4) 3 He H) : MHe G M x He H := ⟨h.1, h.2.1, h.2.2.1, h.2.2.2.1, h4, h.2.2.2.2.2⟩
theorem MAt.he {G : GG} {M : Nat → Nat} {x : MT} {H : Heap} (h : MAt G M x H) : ∃ He, MHe G M x He H := by
  obtain ⟨h0, h1, h2, h3, ⟨f, h4⟩, h5⟩ := h
  exact ⟨f, h0, h1, h2, h3, h4, h5⟩
theorem MHe.put {G : GG} {M : Nat → Nat} {x : MT} {He f : Nat → Int32} {H H1 : Heap} (h : MHe G M x He H) (hN : mN M) (hn : iA G 1 (M 4) 3 f H1) (hq : ∀ q : Nat, q ≠ M 4 → H1[q]? = H[q]?) : MHe G M x f H1 := by
  obtain ⟨h0, h1, h2, ⟨g, h3⟩, h4, h5⟩ := h
  have k : ∀ j, j < 6 → j ≠ 4 → H1[M j]? = H[M j]? := fun j a b => hq _ (hN j 4 a (by decide) b)
  exact ⟨h0.kept (k 0 (by decide) (by decide)), h1.kept (k 1 (by decide) (by decide)), h2.kept (k 2 (by decide) (by decide)), ⟨g, h3.kept (k 3 (by decide) (by decide))⟩, hn, h5.kept (k 5 (by decide) (by decide))⟩
theorem i_X6_next_X6 : ∀ w ∈ wsX60, w ∈ wsX6_next := fun _ h => List.mem_cons_of_mem _ (List.mem_append_right _ h)
theorem k_X6_next_fieldLink_9 : Cond.fieldLink RX6 9 "SameWaterModel" "s" "[I" ∈ wsX6_next := by decide +kernel
theorem k_X6_next_fieldLink_22 : Cond.fieldLink RX6 22 "SameWaterModel" "heaps" "[I" ∈ wsX6_next := by decide +kernel
def r_nextIt_st (x : MT) (child : Int32) (k : Nat) (j : Nat) (He_j : Nat → Int32) : (Nat → Int32) := (upd He_j (r_tellsOf x (nI j) child (nI k) ((mS x) (130 + child).toNatClampNeg)).toNatClampNeg ((He_j (r_tellsOf x (nI j) child (nI k) ((mS x) (130 + child).toNatClampNeg)).toNatClampNeg) + 1))
def r_nextIt (x : MT) (child : Int32) (k : Nat) (He_j0 : Nat → Int32) : Nat → (Nat → Int32)
  | 0 => He_j0
  | j + 1 => r_nextIt_st x child k j (r_nextIt x child k He_j0 j)
def r_nextGo (x : MT) (child : Int32) : Nat → Nat → Int32 → Int32 → (Nat → Int32) → Int32 × (Nat → Int32)
  | 0, _, best, _, He_k => (best, He_k)
  | n + 1, k, best, least, He_k => ((fun (He_z : Nat → Int32) => r_nextGo x child n (k + 1) (if least ≤ (if (He_z (2 : Int32).toNatClampNeg) ≤ (if (He_z (0 : Int32).toNatClampNeg) ≤ (He_z (1 : Int32).toNatClampNeg) then He_z (1 : Int32).toNatClampNeg else He_z (0 : Int32).toNatClampNeg) then if (He_z (0 : Int32).toNatClampNeg) ≤ (He_z (1 : Int32).toNatClampNeg) then He_z (1 : Int32).toNatClampNeg else He_z (0 : Int32).toNatClampNeg else He_z (2 : Int32).toNatClampNeg) then best else nI k) (if least ≤ (if (He_z (2 : Int32).toNatClampNeg) ≤ (if (He_z (0 : Int32).toNatClampNeg) ≤ (He_z (1 : Int32).toNatClampNeg) then He_z (1 : Int32).toNatClampNeg else He_z (0 : Int32).toNatClampNeg) then if (He_z (0 : Int32).toNatClampNeg) ≤ (He_z (1 : Int32).toNatClampNeg) then He_z (1 : Int32).toNatClampNeg else He_z (0 : Int32).toNatClampNeg else He_z (2 : Int32).toNatClampNeg) then least else if (He_z (2 : Int32).toNatClampNeg) ≤ (if (He_z (0 : Int32).toNatClampNeg) ≤ (He_z (1 : Int32).toNatClampNeg) then He_z (1 : Int32).toNatClampNeg else He_z (0 : Int32).toNatClampNeg) then if (He_z (0 : Int32).toNatClampNeg) ≤ (He_z (1 : Int32).toNatClampNeg) then He_z (1 : Int32).toNatClampNeg else He_z (0 : Int32).toNatClampNeg else He_z (2 : Int32).toNatClampNeg) He_z) (r_nextIt x child k (upd (upd (upd He_k (0 : Int32).toNatClampNeg 0) (1 : Int32).toNatClampNeg 0) (2 : Int32).toNatClampNeg 0) (((mS x) (3 : Int32).toNatClampNeg).toNatClampNeg)))
theorem r_nextGo_0 (x : MT) (child : Int32) (k : Nat) (best : Int32) (least : Int32) (He_k : Nat → Int32) : r_nextGo x child 0 k best least He_k = ((best, He_k)) := rfl
theorem r_nextGo_s (x : MT) (child : Int32) (n k : Nat) (best : Int32) (least : Int32) (He_k : Nat → Int32) : r_nextGo x child (n + 1) k best least He_k = (((fun (He_z : Nat → Int32) => r_nextGo x child n (k + 1) (if least ≤ (if (He_z (2 : Int32).toNatClampNeg) ≤ (if (He_z (0 : Int32).toNatClampNeg) ≤ (He_z (1 : Int32).toNatClampNeg) then He_z (1 : Int32).toNatClampNeg else He_z (0 : Int32).toNatClampNeg) then if (He_z (0 : Int32).toNatClampNeg) ≤ (He_z (1 : Int32).toNatClampNeg) then He_z (1 : Int32).toNatClampNeg else He_z (0 : Int32).toNatClampNeg else He_z (2 : Int32).toNatClampNeg) then best else nI k) (if least ≤ (if (He_z (2 : Int32).toNatClampNeg) ≤ (if (He_z (0 : Int32).toNatClampNeg) ≤ (He_z (1 : Int32).toNatClampNeg) then He_z (1 : Int32).toNatClampNeg else He_z (0 : Int32).toNatClampNeg) then if (He_z (0 : Int32).toNatClampNeg) ≤ (He_z (1 : Int32).toNatClampNeg) then He_z (1 : Int32).toNatClampNeg else He_z (0 : Int32).toNatClampNeg else He_z (2 : Int32).toNatClampNeg) then least else if (He_z (2 : Int32).toNatClampNeg) ≤ (if (He_z (0 : Int32).toNatClampNeg) ≤ (He_z (1 : Int32).toNatClampNeg) then He_z (1 : Int32).toNatClampNeg else He_z (0 : Int32).toNatClampNeg) then if (He_z (0 : Int32).toNatClampNeg) ≤ (He_z (1 : Int32).toNatClampNeg) then He_z (1 : Int32).toNatClampNeg else He_z (0 : Int32).toNatClampNeg else He_z (2 : Int32).toNatClampNeg) He_z) (r_nextIt x child k (upd (upd (upd He_k (0 : Int32).toNatClampNeg 0) (1 : Int32).toNatClampNeg 0) (2 : Int32).toNatClampNeg 0) (((mS x) (3 : Int32).toNatClampNeg).toNatClampNeg)))) := rfl
def r_next (x : MT) (He : Nat → Int32) (child : Int32) : Int32 × (Nat → Int32) := if (r_isChild x child) = true then r_nextGo x child (((mS x) (1 : Int32).toNatClampNeg).toNatClampNeg) 0 (-5) ((mS x) (3 : Int32).toNatClampNeg) He else ((-1), He)
set_option maxHeartbeats 4000000 in
set_option maxRecDepth 100000 in
theorem c_X6_next (l : Launch) (G : GG) (M : Nat → Nat) (x : MT) (He : Nat → Int32) (child : Int32)  (hI : mI (mS x)) (hO : mO (mS x)) (hMW : mW (mS x)) (hN : mN M) : Met l yX6_next wsX6_next { frames := 4, cells := 0, slots := 0, locals := 106 } (roP G [.ref (M 0), .int child] (fun H => MHe G M x He H)) (wrQ (some (.int ((r_next x He child).1))) (fun H => MHe G M x ((r_next x He child).2) H) (m34 M)) 0 0 (m34 M) := by
  refine Met.ofW (cc := cX6_next) (maxL := 6) (ret := (some .int)) (by decide) rfl ?_
  intro p e s m args below meth c s₁ Bd hml hv
  obtain ⟨rfl, hK, hB⟩ := hv
  have hx := Bd.exec
  have hb := Bd.bytes
  have hr := Bd.returns
  have hts := atoms_spec (ws := wsX6_next) Bd.pre
  have hown : s.vm.findClass RX6 = some m.cls := findClass_of_methodNamed Bd.named
  have hlocks := Bd.notSynchronized
  have hC : CallFix p m c cX6_next 6 s _ wsX6_next RX6 := ⟨hx, hb, hml, hown, hts⟩
  have hl := lv_entry ([.ref (M 0), .int child]) (n := 6) (Nat.le_of_ble_eq_true rfl)
  rw [lg_entry_eq]
  generalize (lg_sl ([.ref (M 0), .int child]) ++ List.replicate (6 - (lg_sl ([.ref (M 0), .int child])).length) Slot.unset).toArray = ls at hl ⊢
  have hl : lv_has ls 6 [(0, .ref (M 0)), (1, .int child)] := hl
  have hS : wS (m34 M) s.heap s.heap [] := wS.rf
  have f_s := hB
  have hZ := trivial
  have hC1 : ib 0 16 ((mS x) (1 : Int32).toNatClampNeg) := hI 1 (1, 1, 0, 16) (by decide) (Nat.le_refl _) (Nat.le_refl _)
  have hD1 : ((mS x) (1 : Int32).toNatClampNeg).toNatClampNeg ≤ 16 := by have := (hC1.clamp (by decide)).2; omega
  have hC3 : ib 0 8 ((mS x) (3 : Int32).toNatClampNeg) := hI 3 (3, 3, 0, 8) (by decide) (Nat.le_refl _) (Nat.le_refl _)
  have hD3 : ((mS x) (3 : Int32).toNatClampNeg).toNatClampNeg ≤ 8 := by have := (hC3.clamp (by decide)).2; omega
  refine lv_aload_n hx hb dX6_next_0 rfl (lv_at hl 0 rfl) ?_
  refine lv_iload_n hx hb dX6_next_1 rfl (lv_at hl 1 rfl) ?_
  refine ro_call (va_runV (As := [.int child]) (rest := []) hC (c_X6_isChild l G M x child) (cwV 1 hts gX6_next_X6_isChild rfl rfl rfl kd_X6_isChild ⟨Nat.le_of_ble_eq_true rfl, Nat.le_of_ble_eq_true rfl⟩) (ro_preV hK (MHe.to f_s).1 rfl (MHe.to f_s)) rfl rfl hl.1 rfl (lv_room (Nat.le_of_ble_eq_true rfl)) dX6_next_2 ⟨Nat.zero_le _, Nat.zero_le _⟩) ?_
  refine bz_ne (tgt := 10) hx hb dX6_next_5 (by decide) (fun h_1 => ?_) (fun h_1 => ?_)
  · refine lv_bipush (v := (-5)) hx hb dX6_next_10 (by decide +kernel) ?_
    refine lv_istore_n (lv' := [(2, .int (-5)), (0, .ref (M 0)), (1, .int child)]) hx hb dX6_next_12 rfl hl (by decide) rfl (fun ls hl => ?_)
    refine lv_aload_n hx hb dX6_next_13 rfl (lv_at hl 1 rfl) ?_
    refine r_get (C := RX6) (T := TX6) (N := 18) hx hb hts i_X6_next_X6 hown hK (MHe.to f_s).1 rfl 1 (by decide) k_X6_next_fieldLink_9 rfl rfl dX6_next_14 ?_
    refine lv_iconst (v := 3) hx hb dX6_next_17 (by decide) ?_
    refine r_iald hx hb hK (MHe.to f_s).2.1 (vp_ib (lo := 3) (hi := 3) (ib_nI (n := 3) (by decide)) (by decide) (by decide)) dX6_next_18 ?_
    refine lv_istore_n (lv' := [(3, .int ((mS x) (3 : Int32).toNatClampNeg)), (2, .int (-5)), (0, .ref (M 0)), (1, .int child)]) hx hb dX6_next_19 rfl hl (by decide) rfl (fun ls hl => ?_)
    refine lv_iconst (v := 0) hx hb dX6_next_20 (by decide) ?_
    refine lv_istore (lv' := [(4, .int 0), (3, .int ((mS x) (3 : Int32).toNatClampNeg)), (2, .int (-5)), (0, .ref (M 0)), (1, .int child)]) hx hb dX6_next_21 hl (by decide) rfl (fun ls hl => ?_)
    refine loop_wr (nL := 6) (α := Nat × Int32 × Int32 × (Nat → Int32)) (fun a9 => [(0, .ref (M 0)), (1, .int child), (2, .int (a9.2.1)), (3, .int (a9.2.2.1)), (4, .int (nI (a9.1)))]) (fun a9 H locs => (a9.1 ≤ ((mS x) (1 : Int32).toNatClampNeg).toNatClampNeg ∧ r_nextGo x child ((((mS x) (1 : Int32).toNatClampNeg).toNatClampNeg) - a9.1) a9.1 a9.2.1 a9.2.2.1 a9.2.2.2 = r_nextGo x child (((mS x) (1 : Int32).toNatClampNeg).toNatClampNeg) 0 (-5) ((mS x) (3 : Int32).toNatClampNeg) He) ∧ (MHe G M x (a9.2.2.2) H) ∧ wS (m34 M) s.heap H locs ∧ True) (fun a9 => ((mS x) (1 : Int32).toNatClampNeg).toNatClampNeg - a9.1) (0, (-5), (mS x) (3 : Int32).toNatClampNeg, He) ⟨⟨(by first | exact Nat.zero_le _ | decide | omega), rfl⟩, f_s, hS, hZ⟩ (lv_sub hl [3, 4, 2, 1, 0] rfl) (fun a9 H locs hI9 ih_k ls hl => ?_)
    obtain ⟨k, best, least, He_k⟩ := a9
    obtain ⟨hI9, f_s, hS, hZ⟩ := hI9
    have f_s : MHe G M x He_k H := f_s
    obtain ⟨hk_k, hV⟩ : k ≤ ((mS x) (1 : Int32).toNatClampNeg).toNatClampNeg ∧ r_nextGo x child ((((mS x) (1 : Int32).toNatClampNeg).toNatClampNeg) - k) k best least He_k = r_nextGo x child (((mS x) (1 : Int32).toNatClampNeg).toNatClampNeg) 0 (-5) ((mS x) (3 : Int32).toNatClampNeg) He := hI9
    have hl : lv_has ls 6 [(0, .ref (M 0)), (1, .int child), (2, .int best), (3, .int least), (4, .int (nI k))] := hl
    refine lv_iload hx hb dX6_next_23 (lv_at hl 4 rfl) ?_
    refine lv_aload_n hx hb dX6_next_25 rfl (lv_at hl 0 rfl) ?_
    refine r_get (C := RX6) (T := TX6) (N := 18) hx hb hts i_X6_next_X6 hown hK (MHe.to f_s).1 rfl 1 (by decide) k_X6_next_fieldLink_9 rfl rfl dX6_next_26 ?_
    refine lv_iconst (v := 1) hx hb dX6_next_29 (by decide) ?_
    refine r_iald hx hb hK (MHe.to f_s).2.1 (vp_ib (lo := 1) (hi := 1) (ib_nI (n := 1) (by decide)) (by decide) (by decide)) dX6_next_30 ?_
    refine lv_icmp_ge (tgt := 191) hx hb dX6_next_31 (by decide) (fun h_2 => ?_) (fun h_2 => ?_)
    · have hN_k : k = ((mS x) (1 : Int32).toNatClampNeg).toNatClampNeg := ge_ex (N := ((mS x) (1 : Int32).toNatClampNeg).toNatClampNeg) (cnt_beq hC1 (by decide)) h_2 hk_k (by omega)
      subst hN_k
      rw [Nat.sub_self] at hV
      refine lv_iload_n hx hb dX6_next_191 rfl (lv_at hl 2 rfl) ?_
      have hE9 : r_next x He child = (best, He_k) := (by (try unfold r_next); (repeat rw [if_pos h_1]); rw [← hV, r_nextGo_0]; first | done | rfl)
      exact wr_iret hx hb hr hlocks dX6_next_192 hS (by first | exact f_s | (rw [hE9]; exact f_s)) (by rw [hE9]; first | done | rfl)
    · have hlt_k : k < ((mS x) (1 : Int32).toNatClampNeg).toNatClampNeg := ge_in (N := ((mS x) (1 : Int32).toNatClampNeg).toNatClampNeg) (cnt_beq hC1 (by decide)) h_2 hk_k (by omega)
      obtain ⟨n9, hn9⟩ : ∃ n9, (((mS x) (1 : Int32).toNatClampNeg).toNatClampNeg) - k = n9 + 1 := ⟨(((mS x) (1 : Int32).toNatClampNeg).toNatClampNeg) - k - 1, by omega⟩
      rw [hn9] at hV
      refine lv_aload_n hx hb dX6_next_34 rfl (lv_at hl 0 rfl) ?_
      refine r_get (C := RX6) (T := TX6) (N := 18) hx hb hts i_X6_next_X6 hown hK (MHe.to f_s).1 rfl 10 (by decide) k_X6_next_fieldLink_22 rfl rfl dX6_next_35 ?_
      refine lv_iconst (v := 0) hx hb dX6_next_38 (by decide) ?_
      refine lv_iconst (v := 0) hx hb dX6_next_39 (by decide) ?_
      refine w_iast hx hb hK f_s.2.2.2.2.1 hS (.inr rfl) (show ¬ ((0 : Int32) < 0 ∨ 3 ≤ (0 : Int32).toNatClampNeg) by decide) dX6_next_40 (fun H locs hn hq hS => ?_)
      have f_s : MHe G M x (upd He_k (0 : Int32).toNatClampNeg 0) H := f_s.put hN hn hq
      refine lv_aload_n hx hb dX6_next_41 rfl (lv_at hl 0 rfl) ?_
      refine r_get (C := RX6) (T := TX6) (N := 18) hx hb hts i_X6_next_X6 hown hK (MHe.to f_s).1 rfl 10 (by decide) k_X6_next_fieldLink_22 rfl rfl dX6_next_42 ?_
      refine lv_iconst (v := 1) hx hb dX6_next_45 (by decide) ?_
      refine lv_iconst (v := 0) hx hb dX6_next_46 (by decide) ?_
      refine w_iast hx hb hK f_s.2.2.2.2.1 hS (.inr rfl) (show ¬ ((1 : Int32) < 0 ∨ 3 ≤ (1 : Int32).toNatClampNeg) by decide) dX6_next_47 (fun H locs hn hq hS => ?_)
      have f_s : MHe G M x (upd (upd He_k (0 : Int32).toNatClampNeg 0) (1 : Int32).toNatClampNeg 0) H := f_s.put hN hn hq
      refine lv_aload_n hx hb dX6_next_48 rfl (lv_at hl 0 rfl) ?_
      refine r_get (C := RX6) (T := TX6) (N := 18) hx hb hts i_X6_next_X6 hown hK (MHe.to f_s).1 rfl 10 (by decide) k_X6_next_fieldLink_22 rfl rfl dX6_next_49 ?_
      refine lv_iconst (v := 2) hx hb dX6_next_52 (by decide) ?_
      refine lv_iconst (v := 0) hx hb dX6_next_53 (by decide) ?_
      refine w_iast hx hb hK f_s.2.2.2.2.1 hS (.inr rfl) (show ¬ ((2 : Int32) < 0 ∨ 3 ≤ (2 : Int32).toNatClampNeg) by decide) dX6_next_54 (fun H locs hn hq hS => ?_)
      have f_s : MHe G M x (upd (upd (upd He_k (0 : Int32).toNatClampNeg 0) (1 : Int32).toNatClampNeg 0) (2 : Int32).toNatClampNeg 0) H := f_s.put hN hn hq
      refine lv_iconst (v := 0) hx hb dX6_next_55 (by decide) ?_
      refine lv_istore (lv' := [(5, .int 0), (0, .ref (M 0)), (1, .int child), (2, .int best), (3, .int least), (4, .int (nI k))]) hx hb dX6_next_56 hl (by decide) rfl (fun ls hl => ?_)
      refine loop_wr (nL := 6) (α := Nat) (fun j => [(0, .ref (M 0)), (1, .int child), (2, .int best), (3, .int least), (4, .int (nI k)), (5, .int (nI j))]) (fun j H locs => j ≤ ((mS x) (3 : Int32).toNatClampNeg).toNatClampNeg ∧ (MHe G M x (r_nextIt x child k (upd (upd (upd He_k (0 : Int32).toNatClampNeg 0) (1 : Int32).toNatClampNeg 0) (2 : Int32).toNatClampNeg 0) j) H) ∧ wS (m34 M) s.heap H locs ∧ True) (fun j => (((mS x) (3 : Int32).toNatClampNeg).toNatClampNeg) - j) 0 ⟨Nat.zero_le _, f_s, hS, hZ⟩ (lv_sub hl [1, 2, 3, 4, 5, 0] rfl) (fun j H locs hI9 ih_j ls hl => ?_)
      obtain ⟨hk_j, f_s, hS, hZ⟩ := hI9
      have f_s : MHe G M x (r_nextIt x child k (upd (upd (upd He_k (0 : Int32).toNatClampNeg 0) (1 : Int32).toNatClampNeg 0) (2 : Int32).toNatClampNeg 0) j) H := f_s
      have hl : lv_has ls 6 [(0, .ref (M 0)), (1, .int child), (2, .int best), (3, .int least), (4, .int (nI k)), (5, .int (nI j))] := hl
      refine lv_iload hx hb dX6_next_58 (lv_at hl 5 rfl) ?_
      refine lv_aload_n hx hb dX6_next_60 rfl (lv_at hl 0 rfl) ?_
      refine r_get (C := RX6) (T := TX6) (N := 18) hx hb hts i_X6_next_X6 hown hK (MHe.to f_s).1 rfl 1 (by decide) k_X6_next_fieldLink_9 rfl rfl dX6_next_61 ?_
      refine lv_iconst (v := 3) hx hb dX6_next_64 (by decide) ?_
      refine r_iald hx hb hK (MHe.to f_s).2.1 (vp_ib (lo := 3) (hi := 3) (ib_nI (n := 3) (by decide)) (by decide) (by decide)) dX6_next_65 ?_
      refine lv_icmp_ge (tgt := 103) hx hb dX6_next_66 (by decide) (fun h_3 => ?_) (fun h_3 => ?_)
      · have hN_j : j = ((mS x) (3 : Int32).toNatClampNeg).toNatClampNeg := ge_ex (N := ((mS x) (3 : Int32).toNatClampNeg).toNatClampNeg) (cnt_beq hC3 (by decide)) h_3 hk_j (by omega)
        subst hN_j
        obtain ⟨He_z, e_He_z⟩ : ∃ z9, (r_nextIt x child k (upd (upd (upd He_k (0 : Int32).toNatClampNeg 0) (1 : Int32).toNatClampNeg 0) (2 : Int32).toNatClampNeg 0) (((mS x) (3 : Int32).toNatClampNeg).toNatClampNeg)) = z9 := ⟨_, rfl⟩
        rw [e_He_z] at f_s
        refine lv_aload_n hx hb dX6_next_103 rfl (lv_at hl 0 rfl) ?_
        refine r_get (C := RX6) (T := TX6) (N := 18) hx hb hts i_X6_next_X6 hown hK (MHe.to f_s).1 rfl 10 (by decide) k_X6_next_fieldLink_22 rfl rfl dX6_next_104 ?_
        refine lv_iconst (v := 0) hx hb dX6_next_107 (by decide) ?_
        refine r_iald hx hb hK f_s.2.2.2.2.1 (show ¬ ((0 : Int32) < 0 ∨ 3 ≤ (0 : Int32).toNatClampNeg) by decide) dX6_next_108 ?_
        refine lv_aload_n hx hb dX6_next_109 rfl (lv_at hl 0 rfl) ?_
        refine r_get (C := RX6) (T := TX6) (N := 18) hx hb hts i_X6_next_X6 hown hK (MHe.to f_s).1 rfl 10 (by decide) k_X6_next_fieldLink_22 rfl rfl dX6_next_110 ?_
        refine lv_iconst (v := 1) hx hb dX6_next_113 (by decide) ?_
        refine r_iald hx hb hK f_s.2.2.2.2.1 (show ¬ ((1 : Int32) < 0 ∨ 3 ≤ (1 : Int32).toNatClampNeg) by decide) dX6_next_114 ?_
        refine join_wr (nL := 6) 133 [(0, .ref (M 0)), (1, .int child), (2, .int best), (3, .int least), (4, .int (nI k)), (5, .int (nI (((mS x) (3 : Int32).toNatClampNeg).toNatClampNeg)))] [.int (if (He_z (0 : Int32).toNatClampNeg) ≤ (He_z (1 : Int32).toNatClampNeg) then He_z (1 : Int32).toNatClampNeg else He_z (0 : Int32).toNatClampNeg)] (fun H locs => (MHe G M x He_z H) ∧ wS (m34 M) s.heap H locs ∧ True) (fun H locs hI ls hl => ?_) (fun J_4 => ?_)
        · obtain ⟨f_s, hS, hZ⟩ := hI
          refine lv_istore (lv' := [(5, .int (if (He_z (0 : Int32).toNatClampNeg) ≤ (He_z (1 : Int32).toNatClampNeg) then He_z (1 : Int32).toNatClampNeg else He_z (0 : Int32).toNatClampNeg)), (0, .ref (M 0)), (1, .int child), (2, .int best), (3, .int least), (4, .int (nI k))]) hx hb dX6_next_133 hl (by decide) rfl (fun ls hl => ?_)
          refine lv_aload_n hx hb dX6_next_135 rfl (lv_at hl 1 rfl) ?_
          refine r_get (C := RX6) (T := TX6) (N := 18) hx hb hts i_X6_next_X6 hown hK (MHe.to f_s).1 rfl 10 (by decide) k_X6_next_fieldLink_22 rfl rfl dX6_next_136 ?_
          refine lv_iconst (v := 2) hx hb dX6_next_139 (by decide) ?_
          refine r_iald hx hb hK f_s.2.2.2.2.1 (show ¬ ((2 : Int32) < 0 ∨ 3 ≤ (2 : Int32).toNatClampNeg) by decide) dX6_next_140 ?_
          refine lv_iload hx hb dX6_next_141 (lv_at hl 0 rfl) ?_
          refine join_wr (nL := 6) 157 [(5, .int (if (He_z (0 : Int32).toNatClampNeg) ≤ (He_z (1 : Int32).toNatClampNeg) then He_z (1 : Int32).toNatClampNeg else He_z (0 : Int32).toNatClampNeg)), (0, .ref (M 0)), (1, .int child), (2, .int best), (3, .int least), (4, .int (nI k))] [.int (if (He_z (2 : Int32).toNatClampNeg) ≤ (if (He_z (0 : Int32).toNatClampNeg) ≤ (He_z (1 : Int32).toNatClampNeg) then He_z (1 : Int32).toNatClampNeg else He_z (0 : Int32).toNatClampNeg) then if (He_z (0 : Int32).toNatClampNeg) ≤ (He_z (1 : Int32).toNatClampNeg) then He_z (1 : Int32).toNatClampNeg else He_z (0 : Int32).toNatClampNeg else He_z (2 : Int32).toNatClampNeg)] (fun H locs => (MHe G M x He_z H) ∧ wS (m34 M) s.heap H locs ∧ True) (fun H locs hI ls hl => ?_) (fun J_5 => ?_)
          · obtain ⟨f_s, hS, hZ⟩ := hI
            refine lv_istore (lv' := [(5, .int (if (He_z (2 : Int32).toNatClampNeg) ≤ (if (He_z (0 : Int32).toNatClampNeg) ≤ (He_z (1 : Int32).toNatClampNeg) then He_z (1 : Int32).toNatClampNeg else He_z (0 : Int32).toNatClampNeg) then if (He_z (0 : Int32).toNatClampNeg) ≤ (He_z (1 : Int32).toNatClampNeg) then He_z (1 : Int32).toNatClampNeg else He_z (0 : Int32).toNatClampNeg else He_z (2 : Int32).toNatClampNeg)), (0, .ref (M 0)), (1, .int child), (2, .int best), (3, .int least), (4, .int (nI k))]) hx hb dX6_next_157 hl (by decide) rfl (fun ls hl => ?_)
            refine lv_iload hx hb dX6_next_159 (lv_at hl 0 rfl) ?_
            refine lv_iload_n hx hb dX6_next_161 rfl (lv_at hl 4 rfl) ?_
            refine join_wr (nL := 6) 171 [(5, .int (if (He_z (2 : Int32).toNatClampNeg) ≤ (if (He_z (0 : Int32).toNatClampNeg) ≤ (He_z (1 : Int32).toNatClampNeg) then He_z (1 : Int32).toNatClampNeg else He_z (0 : Int32).toNatClampNeg) then if (He_z (0 : Int32).toNatClampNeg) ≤ (He_z (1 : Int32).toNatClampNeg) then He_z (1 : Int32).toNatClampNeg else He_z (0 : Int32).toNatClampNeg else He_z (2 : Int32).toNatClampNeg)), (0, .ref (M 0)), (1, .int child), (2, .int best), (3, .int least), (4, .int (nI k))] [.int (if least ≤ (if (He_z (2 : Int32).toNatClampNeg) ≤ (if (He_z (0 : Int32).toNatClampNeg) ≤ (He_z (1 : Int32).toNatClampNeg) then He_z (1 : Int32).toNatClampNeg else He_z (0 : Int32).toNatClampNeg) then if (He_z (0 : Int32).toNatClampNeg) ≤ (He_z (1 : Int32).toNatClampNeg) then He_z (1 : Int32).toNatClampNeg else He_z (0 : Int32).toNatClampNeg else He_z (2 : Int32).toNatClampNeg) then best else nI k)] (fun H locs => (MHe G M x He_z H) ∧ wS (m34 M) s.heap H locs ∧ True) (fun H locs hI ls hl => ?_) (fun J_6 => ?_)
            · obtain ⟨f_s, hS, hZ⟩ := hI
              refine lv_istore_n (lv' := [(2, .int (if least ≤ (if (He_z (2 : Int32).toNatClampNeg) ≤ (if (He_z (0 : Int32).toNatClampNeg) ≤ (He_z (1 : Int32).toNatClampNeg) then He_z (1 : Int32).toNatClampNeg else He_z (0 : Int32).toNatClampNeg) then if (He_z (0 : Int32).toNatClampNeg) ≤ (He_z (1 : Int32).toNatClampNeg) then He_z (1 : Int32).toNatClampNeg else He_z (0 : Int32).toNatClampNeg else He_z (2 : Int32).toNatClampNeg) then best else nI k)), (5, .int (if (He_z (2 : Int32).toNatClampNeg) ≤ (if (He_z (0 : Int32).toNatClampNeg) ≤ (He_z (1 : Int32).toNatClampNeg) then He_z (1 : Int32).toNatClampNeg else He_z (0 : Int32).toNatClampNeg) then if (He_z (0 : Int32).toNatClampNeg) ≤ (He_z (1 : Int32).toNatClampNeg) then He_z (1 : Int32).toNatClampNeg else He_z (0 : Int32).toNatClampNeg else He_z (2 : Int32).toNatClampNeg)), (0, .ref (M 0)), (1, .int child), (3, .int least), (4, .int (nI k))]) hx hb dX6_next_171 rfl hl (by decide) rfl (fun ls hl => ?_)
              refine lv_iload hx hb dX6_next_172 (lv_at hl 1 rfl) ?_
              refine lv_iload_n hx hb dX6_next_174 rfl (lv_at hl 4 rfl) ?_
              refine join_wr (nL := 6) 184 [(2, .int (if least ≤ (if (He_z (2 : Int32).toNatClampNeg) ≤ (if (He_z (0 : Int32).toNatClampNeg) ≤ (He_z (1 : Int32).toNatClampNeg) then He_z (1 : Int32).toNatClampNeg else He_z (0 : Int32).toNatClampNeg) then if (He_z (0 : Int32).toNatClampNeg) ≤ (He_z (1 : Int32).toNatClampNeg) then He_z (1 : Int32).toNatClampNeg else He_z (0 : Int32).toNatClampNeg else He_z (2 : Int32).toNatClampNeg) then best else nI k)), (5, .int (if (He_z (2 : Int32).toNatClampNeg) ≤ (if (He_z (0 : Int32).toNatClampNeg) ≤ (He_z (1 : Int32).toNatClampNeg) then He_z (1 : Int32).toNatClampNeg else He_z (0 : Int32).toNatClampNeg) then if (He_z (0 : Int32).toNatClampNeg) ≤ (He_z (1 : Int32).toNatClampNeg) then He_z (1 : Int32).toNatClampNeg else He_z (0 : Int32).toNatClampNeg else He_z (2 : Int32).toNatClampNeg)), (0, .ref (M 0)), (1, .int child), (3, .int least), (4, .int (nI k))] [.int (if least ≤ (if (He_z (2 : Int32).toNatClampNeg) ≤ (if (He_z (0 : Int32).toNatClampNeg) ≤ (He_z (1 : Int32).toNatClampNeg) then He_z (1 : Int32).toNatClampNeg else He_z (0 : Int32).toNatClampNeg) then if (He_z (0 : Int32).toNatClampNeg) ≤ (He_z (1 : Int32).toNatClampNeg) then He_z (1 : Int32).toNatClampNeg else He_z (0 : Int32).toNatClampNeg else He_z (2 : Int32).toNatClampNeg) then least else if (He_z (2 : Int32).toNatClampNeg) ≤ (if (He_z (0 : Int32).toNatClampNeg) ≤ (He_z (1 : Int32).toNatClampNeg) then He_z (1 : Int32).toNatClampNeg else He_z (0 : Int32).toNatClampNeg) then if (He_z (0 : Int32).toNatClampNeg) ≤ (He_z (1 : Int32).toNatClampNeg) then He_z (1 : Int32).toNatClampNeg else He_z (0 : Int32).toNatClampNeg else He_z (2 : Int32).toNatClampNeg)] (fun H locs => (MHe G M x He_z H) ∧ wS (m34 M) s.heap H locs ∧ True) (fun H locs hI ls hl => ?_) (fun J_7 => ?_)
              · obtain ⟨f_s, hS, hZ⟩ := hI
                refine lv_istore_n (lv' := [(3, .int (if least ≤ (if (He_z (2 : Int32).toNatClampNeg) ≤ (if (He_z (0 : Int32).toNatClampNeg) ≤ (He_z (1 : Int32).toNatClampNeg) then He_z (1 : Int32).toNatClampNeg else He_z (0 : Int32).toNatClampNeg) then if (He_z (0 : Int32).toNatClampNeg) ≤ (He_z (1 : Int32).toNatClampNeg) then He_z (1 : Int32).toNatClampNeg else He_z (0 : Int32).toNatClampNeg else He_z (2 : Int32).toNatClampNeg) then least else if (He_z (2 : Int32).toNatClampNeg) ≤ (if (He_z (0 : Int32).toNatClampNeg) ≤ (He_z (1 : Int32).toNatClampNeg) then He_z (1 : Int32).toNatClampNeg else He_z (0 : Int32).toNatClampNeg) then if (He_z (0 : Int32).toNatClampNeg) ≤ (He_z (1 : Int32).toNatClampNeg) then He_z (1 : Int32).toNatClampNeg else He_z (0 : Int32).toNatClampNeg else He_z (2 : Int32).toNatClampNeg)), (2, .int (if least ≤ (if (He_z (2 : Int32).toNatClampNeg) ≤ (if (He_z (0 : Int32).toNatClampNeg) ≤ (He_z (1 : Int32).toNatClampNeg) then He_z (1 : Int32).toNatClampNeg else He_z (0 : Int32).toNatClampNeg) then if (He_z (0 : Int32).toNatClampNeg) ≤ (He_z (1 : Int32).toNatClampNeg) then He_z (1 : Int32).toNatClampNeg else He_z (0 : Int32).toNatClampNeg else He_z (2 : Int32).toNatClampNeg) then best else nI k)), (5, .int (if (He_z (2 : Int32).toNatClampNeg) ≤ (if (He_z (0 : Int32).toNatClampNeg) ≤ (He_z (1 : Int32).toNatClampNeg) then He_z (1 : Int32).toNatClampNeg else He_z (0 : Int32).toNatClampNeg) then if (He_z (0 : Int32).toNatClampNeg) ≤ (He_z (1 : Int32).toNatClampNeg) then He_z (1 : Int32).toNatClampNeg else He_z (0 : Int32).toNatClampNeg else He_z (2 : Int32).toNatClampNeg)), (0, .ref (M 0)), (1, .int child), (4, .int (nI k))]) hx hb dX6_next_184 rfl hl (by decide) rfl (fun ls hl => ?_)
                refine lv_iinc (v := (nI k) + 1) (lv' := [(4, .int ((nI k) + 1)), (3, .int (if least ≤ (if (He_z (2 : Int32).toNatClampNeg) ≤ (if (He_z (0 : Int32).toNatClampNeg) ≤ (He_z (1 : Int32).toNatClampNeg) then He_z (1 : Int32).toNatClampNeg else He_z (0 : Int32).toNatClampNeg) then if (He_z (0 : Int32).toNatClampNeg) ≤ (He_z (1 : Int32).toNatClampNeg) then He_z (1 : Int32).toNatClampNeg else He_z (0 : Int32).toNatClampNeg else He_z (2 : Int32).toNatClampNeg) then least else if (He_z (2 : Int32).toNatClampNeg) ≤ (if (He_z (0 : Int32).toNatClampNeg) ≤ (He_z (1 : Int32).toNatClampNeg) then He_z (1 : Int32).toNatClampNeg else He_z (0 : Int32).toNatClampNeg) then if (He_z (0 : Int32).toNatClampNeg) ≤ (He_z (1 : Int32).toNatClampNeg) then He_z (1 : Int32).toNatClampNeg else He_z (0 : Int32).toNatClampNeg else He_z (2 : Int32).toNatClampNeg)), (2, .int (if least ≤ (if (He_z (2 : Int32).toNatClampNeg) ≤ (if (He_z (0 : Int32).toNatClampNeg) ≤ (He_z (1 : Int32).toNatClampNeg) then He_z (1 : Int32).toNatClampNeg else He_z (0 : Int32).toNatClampNeg) then if (He_z (0 : Int32).toNatClampNeg) ≤ (He_z (1 : Int32).toNatClampNeg) then He_z (1 : Int32).toNatClampNeg else He_z (0 : Int32).toNatClampNeg else He_z (2 : Int32).toNatClampNeg) then best else nI k)), (5, .int (if (He_z (2 : Int32).toNatClampNeg) ≤ (if (He_z (0 : Int32).toNatClampNeg) ≤ (He_z (1 : Int32).toNatClampNeg) then He_z (1 : Int32).toNatClampNeg else He_z (0 : Int32).toNatClampNeg) then if (He_z (0 : Int32).toNatClampNeg) ≤ (He_z (1 : Int32).toNatClampNeg) then He_z (1 : Int32).toNatClampNeg else He_z (0 : Int32).toNatClampNeg else He_z (2 : Int32).toNatClampNeg)), (0, .ref (M 0)), (1, .int child)]) hx hb dX6_next_185 hl (k := 5) rfl rfl (by decide) rfl (fun ls hl => ?_)
                refine lv_goto (tgt := 23) hx hb dX6_next_188 (by decide) ?_
                have hE : r_nextGo x child n9 (k + 1) (if least ≤ (if (He_z (2 : Int32).toNatClampNeg) ≤ (if (He_z (0 : Int32).toNatClampNeg) ≤ (He_z (1 : Int32).toNatClampNeg) then He_z (1 : Int32).toNatClampNeg else He_z (0 : Int32).toNatClampNeg) then if (He_z (0 : Int32).toNatClampNeg) ≤ (He_z (1 : Int32).toNatClampNeg) then He_z (1 : Int32).toNatClampNeg else He_z (0 : Int32).toNatClampNeg else He_z (2 : Int32).toNatClampNeg) then best else nI k) (if least ≤ (if (He_z (2 : Int32).toNatClampNeg) ≤ (if (He_z (0 : Int32).toNatClampNeg) ≤ (He_z (1 : Int32).toNatClampNeg) then He_z (1 : Int32).toNatClampNeg else He_z (0 : Int32).toNatClampNeg) then if (He_z (0 : Int32).toNatClampNeg) ≤ (He_z (1 : Int32).toNatClampNeg) then He_z (1 : Int32).toNatClampNeg else He_z (0 : Int32).toNatClampNeg else He_z (2 : Int32).toNatClampNeg) then least else if (He_z (2 : Int32).toNatClampNeg) ≤ (if (He_z (0 : Int32).toNatClampNeg) ≤ (He_z (1 : Int32).toNatClampNeg) then He_z (1 : Int32).toNatClampNeg else He_z (0 : Int32).toNatClampNeg) then if (He_z (0 : Int32).toNatClampNeg) ≤ (He_z (1 : Int32).toNatClampNeg) then He_z (1 : Int32).toNatClampNeg else He_z (0 : Int32).toNatClampNeg else He_z (2 : Int32).toNatClampNeg) He_z = r_nextGo x child (((mS x) (1 : Int32).toNatClampNeg).toNatClampNeg) 0 (-5) ((mS x) (3 : Int32).toNatClampNeg) He := (by rw [← hV, r_nextGo_s]; (try rw [e_He_z]); (try dsimp only); first | done | rfl)
                refine ih_k ((k + 1, if least ≤ (if (He_z (2 : Int32).toNatClampNeg) ≤ (if (He_z (0 : Int32).toNatClampNeg) ≤ (He_z (1 : Int32).toNatClampNeg) then He_z (1 : Int32).toNatClampNeg else He_z (0 : Int32).toNatClampNeg) then if (He_z (0 : Int32).toNatClampNeg) ≤ (He_z (1 : Int32).toNatClampNeg) then He_z (1 : Int32).toNatClampNeg else He_z (0 : Int32).toNatClampNeg else He_z (2 : Int32).toNatClampNeg) then best else nI k, if least ≤ (if (He_z (2 : Int32).toNatClampNeg) ≤ (if (He_z (0 : Int32).toNatClampNeg) ≤ (He_z (1 : Int32).toNatClampNeg) then He_z (1 : Int32).toNatClampNeg else He_z (0 : Int32).toNatClampNeg) then if (He_z (0 : Int32).toNatClampNeg) ≤ (He_z (1 : Int32).toNatClampNeg) then He_z (1 : Int32).toNatClampNeg else He_z (0 : Int32).toNatClampNeg else He_z (2 : Int32).toNatClampNeg) then least else if (He_z (2 : Int32).toNatClampNeg) ≤ (if (He_z (0 : Int32).toNatClampNeg) ≤ (He_z (1 : Int32).toNatClampNeg) then He_z (1 : Int32).toNatClampNeg else He_z (0 : Int32).toNatClampNeg) then if (He_z (0 : Int32).toNatClampNeg) ≤ (He_z (1 : Int32).toNatClampNeg) then He_z (1 : Int32).toNatClampNeg else He_z (0 : Int32).toNatClampNeg else He_z (2 : Int32).toNatClampNeg, He_z)) _ _ ⟨⟨(show k + 1 ≤ ((mS x) (1 : Int32).toNatClampNeg).toNatClampNeg by omega), (by show r_nextGo x child ((((mS x) (1 : Int32).toNatClampNeg).toNatClampNeg) - (k + 1)) (k + 1) (if least ≤ (if (He_z (2 : Int32).toNatClampNeg) ≤ (if (He_z (0 : Int32).toNatClampNeg) ≤ (He_z (1 : Int32).toNatClampNeg) then He_z (1 : Int32).toNatClampNeg else He_z (0 : Int32).toNatClampNeg) then if (He_z (0 : Int32).toNatClampNeg) ≤ (He_z (1 : Int32).toNatClampNeg) then He_z (1 : Int32).toNatClampNeg else He_z (0 : Int32).toNatClampNeg else He_z (2 : Int32).toNatClampNeg) then best else nI k) (if least ≤ (if (He_z (2 : Int32).toNatClampNeg) ≤ (if (He_z (0 : Int32).toNatClampNeg) ≤ (He_z (1 : Int32).toNatClampNeg) then He_z (1 : Int32).toNatClampNeg else He_z (0 : Int32).toNatClampNeg) then if (He_z (0 : Int32).toNatClampNeg) ≤ (He_z (1 : Int32).toNatClampNeg) then He_z (1 : Int32).toNatClampNeg else He_z (0 : Int32).toNatClampNeg else He_z (2 : Int32).toNatClampNeg) then least else if (He_z (2 : Int32).toNatClampNeg) ≤ (if (He_z (0 : Int32).toNatClampNeg) ≤ (He_z (1 : Int32).toNatClampNeg) then He_z (1 : Int32).toNatClampNeg else He_z (0 : Int32).toNatClampNeg) then if (He_z (0 : Int32).toNatClampNeg) ≤ (He_z (1 : Int32).toNatClampNeg) then He_z (1 : Int32).toNatClampNeg else He_z (0 : Int32).toNatClampNeg else He_z (2 : Int32).toNatClampNeg) He_z = _; rw [show (((mS x) (1 : Int32).toNatClampNeg).toNatClampNeg) - (k + 1) = n9 by omega]; exact hE)⟩, f_s, hS, hZ⟩ (show (((mS x) (1 : Int32).toNatClampNeg).toNatClampNeg) - (k + 1) < (((mS x) (1 : Int32).toNatClampNeg).toNatClampNeg) - k by omega) ls ?_
                show lv_has ls 6 [(0, .ref (M 0)), (1, .int child), (2, .int (if least ≤ (if (He_z (2 : Int32).toNatClampNeg) ≤ (if (He_z (0 : Int32).toNatClampNeg) ≤ (He_z (1 : Int32).toNatClampNeg) then He_z (1 : Int32).toNatClampNeg else He_z (0 : Int32).toNatClampNeg) then if (He_z (0 : Int32).toNatClampNeg) ≤ (He_z (1 : Int32).toNatClampNeg) then He_z (1 : Int32).toNatClampNeg else He_z (0 : Int32).toNatClampNeg else He_z (2 : Int32).toNatClampNeg) then best else nI k)), (3, .int (if least ≤ (if (He_z (2 : Int32).toNatClampNeg) ≤ (if (He_z (0 : Int32).toNatClampNeg) ≤ (He_z (1 : Int32).toNatClampNeg) then He_z (1 : Int32).toNatClampNeg else He_z (0 : Int32).toNatClampNeg) then if (He_z (0 : Int32).toNatClampNeg) ≤ (He_z (1 : Int32).toNatClampNeg) then He_z (1 : Int32).toNatClampNeg else He_z (0 : Int32).toNatClampNeg else He_z (2 : Int32).toNatClampNeg) then least else if (He_z (2 : Int32).toNatClampNeg) ≤ (if (He_z (0 : Int32).toNatClampNeg) ≤ (He_z (1 : Int32).toNatClampNeg) then He_z (1 : Int32).toNatClampNeg else He_z (0 : Int32).toNatClampNeg) then if (He_z (0 : Int32).toNatClampNeg) ≤ (He_z (1 : Int32).toNatClampNeg) then He_z (1 : Int32).toNatClampNeg else He_z (0 : Int32).toNatClampNeg else He_z (2 : Int32).toNatClampNeg)), (4, .int (nI (k + 1)))]
                rw [nI_succ]
                exact lv_sub hl [4, 5, 2, 1, 0] rfl
              · refine lv_icmp_ge (tgt := 183) hx hb dX6_next_175 (by decide) (fun h_8 => ?_) (fun h_8 => ?_)
                · refine lv_iload_n hx hb dX6_next_183 rfl (lv_at hl 4 rfl) ?_
                  have hJ := J_7; (repeat rw [if_pos h_8] at hJ)
                  first | exact hJ _ _ ⟨f_s, hS, hZ⟩ ls (lv_sub hl [0, 1, 2, 3, 4, 5] rfl) | ((repeat rw [if_pos h_8] at hl); (repeat rw [if_pos h_8]); (repeat rw [if_pos h_8] at f_s); exact hJ _ _ ⟨f_s, hS, hZ⟩ ls (lv_sub hl [0, 1, 2, 3, 4, 5] rfl))
                · refine lv_iload hx hb dX6_next_178 (lv_at hl 1 rfl) ?_
                  refine lv_goto (tgt := 184) hx hb dX6_next_180 (by decide) ?_
                  have hJ := J_7; (repeat rw [if_neg h_8] at hJ)
                  first | exact hJ _ _ ⟨f_s, hS, hZ⟩ ls (lv_sub hl [0, 1, 2, 3, 4, 5] rfl) | ((repeat rw [if_neg h_8] at hl); (repeat rw [if_neg h_8]); (repeat rw [if_neg h_8] at f_s); exact hJ _ _ ⟨f_s, hS, hZ⟩ ls (lv_sub hl [0, 1, 2, 3, 4, 5] rfl))
            · refine lv_icmp_ge (tgt := 170) hx hb dX6_next_162 (by decide) (fun h_9 => ?_) (fun h_9 => ?_)
              · refine lv_iload_n hx hb dX6_next_170 rfl (lv_at hl 3 rfl) ?_
                have hJ := J_6; (repeat rw [if_pos h_9] at hJ)
                first | exact hJ _ _ ⟨f_s, hS, hZ⟩ ls (lv_sub hl [0, 1, 2, 3, 4, 5] rfl) | ((repeat rw [if_pos h_9] at hl); (repeat rw [if_pos h_9]); (repeat rw [if_pos h_9] at f_s); exact hJ _ _ ⟨f_s, hS, hZ⟩ ls (lv_sub hl [0, 1, 2, 3, 4, 5] rfl))
              · refine lv_iload hx hb dX6_next_165 (lv_at hl 5 rfl) ?_
                refine lv_goto (tgt := 171) hx hb dX6_next_167 (by decide) ?_
                have hJ := J_6; (repeat rw [if_neg h_9] at hJ)
                first | exact hJ _ _ ⟨f_s, hS, hZ⟩ ls (lv_sub hl [0, 1, 2, 3, 4, 5] rfl) | ((repeat rw [if_neg h_9] at hl); (repeat rw [if_neg h_9]); (repeat rw [if_neg h_9] at f_s); exact hJ _ _ ⟨f_s, hS, hZ⟩ ls (lv_sub hl [0, 1, 2, 3, 4, 5] rfl))
          · refine lv_icmp_le (tgt := 155) hx hb dX6_next_143 (by decide) (fun h_10 => ?_) (fun h_10 => ?_)
            · refine lv_iload hx hb dX6_next_155 (lv_at hl 0 rfl) ?_
              have hJ := J_5; (repeat rw [if_pos h_10] at hJ)
              first | exact hJ _ _ ⟨f_s, hS, hZ⟩ ls (lv_sub hl [0, 1, 2, 3, 4, 5] rfl) | ((repeat rw [if_pos h_10] at hl); (repeat rw [if_pos h_10]); (repeat rw [if_pos h_10] at f_s); exact hJ _ _ ⟨f_s, hS, hZ⟩ ls (lv_sub hl [0, 1, 2, 3, 4, 5] rfl))
            · refine lv_aload_n hx hb dX6_next_146 rfl (lv_at hl 1 rfl) ?_
              refine r_get (C := RX6) (T := TX6) (N := 18) hx hb hts i_X6_next_X6 hown hK (MHe.to f_s).1 rfl 10 (by decide) k_X6_next_fieldLink_22 rfl rfl dX6_next_147 ?_
              refine lv_iconst (v := 2) hx hb dX6_next_150 (by decide) ?_
              refine r_iald hx hb hK f_s.2.2.2.2.1 (show ¬ ((2 : Int32) < 0 ∨ 3 ≤ (2 : Int32).toNatClampNeg) by decide) dX6_next_151 ?_
              refine lv_goto (tgt := 157) hx hb dX6_next_152 (by decide) ?_
              have hJ := J_5; (repeat rw [if_neg h_10] at hJ)
              first | exact hJ _ _ ⟨f_s, hS, hZ⟩ ls (lv_sub hl [0, 1, 2, 3, 4, 5] rfl) | ((repeat rw [if_neg h_10] at hl); (repeat rw [if_neg h_10]); (repeat rw [if_neg h_10] at f_s); exact hJ _ _ ⟨f_s, hS, hZ⟩ ls (lv_sub hl [0, 1, 2, 3, 4, 5] rfl))
        · refine lv_icmp_le (tgt := 127) hx hb dX6_next_115 (by decide) (fun h_11 => ?_) (fun h_11 => ?_)
          · refine lv_aload_n hx hb dX6_next_127 rfl (lv_at hl 0 rfl) ?_
            refine r_get (C := RX6) (T := TX6) (N := 18) hx hb hts i_X6_next_X6 hown hK (MHe.to f_s).1 rfl 10 (by decide) k_X6_next_fieldLink_22 rfl rfl dX6_next_128 ?_
            refine lv_iconst (v := 1) hx hb dX6_next_131 (by decide) ?_
            refine r_iald hx hb hK f_s.2.2.2.2.1 (vp_ib (lo := 1) (hi := 1) (ib_nI (n := 1) (by decide)) (by decide) (by decide)) dX6_next_132 ?_
            have hJ := J_4; (repeat rw [if_pos h_11] at hJ)
            first | exact hJ _ _ ⟨f_s, hS, hZ⟩ ls (lv_sub hl [0, 1, 2, 3, 4, 5] rfl) | ((repeat rw [if_pos h_11] at hl); (repeat rw [if_pos h_11]); (repeat rw [if_pos h_11] at f_s); exact hJ _ _ ⟨f_s, hS, hZ⟩ ls (lv_sub hl [0, 1, 2, 3, 4, 5] rfl))
          · refine lv_aload_n hx hb dX6_next_118 rfl (lv_at hl 0 rfl) ?_
            refine r_get (C := RX6) (T := TX6) (N := 18) hx hb hts i_X6_next_X6 hown hK (MHe.to f_s).1 rfl 10 (by decide) k_X6_next_fieldLink_22 rfl rfl dX6_next_119 ?_
            refine lv_iconst (v := 0) hx hb dX6_next_122 (by decide) ?_
            refine r_iald hx hb hK f_s.2.2.2.2.1 (show ¬ ((0 : Int32) < 0 ∨ 3 ≤ (0 : Int32).toNatClampNeg) by decide) dX6_next_123 ?_
            refine lv_goto (tgt := 133) hx hb dX6_next_124 (by decide) ?_
            have hJ := J_4; (repeat rw [if_neg h_11] at hJ)
            first | exact hJ _ _ ⟨f_s, hS, hZ⟩ ls (lv_sub hl [0, 1, 2, 3, 4, 5] rfl) | ((repeat rw [if_neg h_11] at hl); (repeat rw [if_neg h_11]); (repeat rw [if_neg h_11] at f_s); exact hJ _ _ ⟨f_s, hS, hZ⟩ ls (lv_sub hl [0, 1, 2, 3, 4, 5] rfl))
      · have hlt_j : j < ((mS x) (3 : Int32).toNatClampNeg).toNatClampNeg := ge_in (N := ((mS x) (3 : Int32).toNatClampNeg).toNatClampNeg) (cnt_beq hC3 (by decide)) h_3 hk_j (by omega)
        refine lv_aload_n hx hb dX6_next_69 rfl (lv_at hl 0 rfl) ?_
        refine r_get (C := RX6) (T := TX6) (N := 18) hx hb hts i_X6_next_X6 hown hK (MHe.to f_s).1 rfl 10 (by decide) k_X6_next_fieldLink_22 rfl rfl dX6_next_70 ?_
        refine lv_aload_n hx hb dX6_next_73 rfl (lv_at hl 0 rfl) ?_
        refine lv_iload hx hb dX6_next_74 (lv_at hl 5 rfl) ?_
        refine lv_iload_n hx hb dX6_next_76 rfl (lv_at hl 1 rfl) ?_
        refine lv_iload hx hb dX6_next_77 (lv_at hl 4 rfl) ?_
        refine lv_aload_n hx hb dX6_next_79 rfl (lv_at hl 0 rfl) ?_
        refine r_get (C := RX6) (T := TX6) (N := 18) hx hb hts i_X6_next_X6 hown hK (MHe.to f_s).1 rfl 1 (by decide) k_X6_next_fieldLink_9 rfl rfl dX6_next_80 ?_
        refine lv_sipush (v := 130) hx hb dX6_next_83 (by decide +kernel) ?_
        refine lv_iload_n hx hb dX6_next_86 rfl (lv_at hl 1 rfl) ?_
        refine lv_iadd hx hb dX6_next_87 ?_
        refine r_iald hx hb hK (MHe.to f_s).2.1 (vp_ib (lo := 130) (hi := 137) (ib_add (ib_nI (n := 130) (by decide)) (isChild_ib hI h_1) (by decide) (by decide)) (by decide) (by decide)) dX6_next_88 ?_
        refine wr_call (va_runV (As := [.int (nI j), .int child, .int (nI k), .int ((mS x) (130 + child).toNatClampNeg)]) (rest := [.ref (M 4)]) hC (c_X6_tellsOf l G M x (nI j) child (nI k) ((mS x) (130 + child).toNatClampNeg) hI hO hMW hN (ib.weak (ib_ltc hC3 (by omega) (by decide)) (by decide) (by decide)) (ib.weak (isChild_ib hI h_1) (by decide) (by decide)) (ib.weak (ib_ltc hC1 (by omega) (by decide)) (by decide) (by decide)) (law_wf hI hMW (by omega))) (cwV 4 hts gX6_next_X6_tellsOf rfl rfl rfl kd_X6_tellsOf ⟨Nat.le_of_ble_eq_true rfl, Nat.le_of_ble_eq_true rfl⟩) (ro_preV hK f_s.1 rfl (MHe.to f_s)) rfl rfl hl.1 rfl (lv_room (Nat.le_of_ble_eq_true rfl)) dX6_next_89 ⟨Nat.zero_le _, Nat.zero_le _⟩) hS (fun q h => .inl h) (fun H locs f_n hq hS => ?_)
        have f_s := (MHe.of f_n (f_s.2.2.2.2.1.kept (hq _ (hN 4 3 (by decide) (by decide) (by decide)))))
        refine lv_dup2_11 hx hb dX6_next_92 rfl rfl ?_
        refine r_iald hx hb hK f_s.2.2.2.2.1 (vp_ib (tells_ib hI (ib.weak (ib_ltc hC3 (by omega) (by decide)) (by decide) (by decide)) (ib.weak (ib_ltc hC1 (by omega) (by decide)) (by decide) (by decide))) (by decide) (by decide)) dX6_next_93 ?_
        refine lv_iconst (v := 1) hx hb dX6_next_94 (by decide) ?_
        refine lv_iadd hx hb dX6_next_95 ?_
        refine w_iast hx hb hK f_s.2.2.2.2.1 hS (.inr rfl) (vp_ib (tells_ib hI (ib.weak (ib_ltc hC3 (by omega) (by decide)) (by decide) (by decide)) (ib.weak (ib_ltc hC1 (by omega) (by decide)) (by decide) (by decide))) (by decide) (by decide)) dX6_next_96 (fun H locs hn hq hS => ?_)
        have f_s : MHe G M x (upd (r_nextIt x child k (upd (upd (upd He_k (0 : Int32).toNatClampNeg 0) (1 : Int32).toNatClampNeg 0) (2 : Int32).toNatClampNeg 0) j) (r_tellsOf x (nI j) child (nI k) ((mS x) (130 + child).toNatClampNeg)).toNatClampNeg (((r_nextIt x child k (upd (upd (upd He_k (0 : Int32).toNatClampNeg 0) (1 : Int32).toNatClampNeg 0) (2 : Int32).toNatClampNeg 0) j) (r_tellsOf x (nI j) child (nI k) ((mS x) (130 + child).toNatClampNeg)).toNatClampNeg) + 1)) H := f_s.put hN hn hq
        refine lv_iinc (v := (nI j) + 1) (lv' := [(5, .int ((nI j) + 1)), (0, .ref (M 0)), (1, .int child), (2, .int best), (3, .int least), (4, .int (nI k))]) hx hb dX6_next_97 hl (k := 5) rfl rfl (by decide) rfl (fun ls hl => ?_)
        refine lv_goto (tgt := 58) hx hb dX6_next_100 (by decide) ?_
        have hE : (r_nextIt x child k (upd (upd (upd He_k (0 : Int32).toNatClampNeg 0) (1 : Int32).toNatClampNeg 0) (2 : Int32).toNatClampNeg 0) (j + 1)) = (upd (r_nextIt x child k (upd (upd (upd He_k (0 : Int32).toNatClampNeg 0) (1 : Int32).toNatClampNeg 0) (2 : Int32).toNatClampNeg 0) j) (r_tellsOf x (nI j) child (nI k) ((mS x) (130 + child).toNatClampNeg)).toNatClampNeg (((r_nextIt x child k (upd (upd (upd He_k (0 : Int32).toNatClampNeg 0) (1 : Int32).toNatClampNeg 0) (2 : Int32).toNatClampNeg 0) j) (r_tellsOf x (nI j) child (nI k) ((mS x) (130 + child).toNatClampNeg)).toNatClampNeg) + 1)) := (by show r_nextIt_st x child k j (r_nextIt x child k (upd (upd (upd He_k (0 : Int32).toNatClampNeg 0) (1 : Int32).toNatClampNeg 0) (2 : Int32).toNatClampNeg 0) j) = _; (try unfold r_nextIt_st); first | done | rfl)
        refine ih_j (j + 1) _ _ ⟨(show j + 1 ≤ ((mS x) (3 : Int32).toNatClampNeg).toNatClampNeg by omega), (by rw [hE]; exact f_s), hS, hZ⟩ (show (((mS x) (3 : Int32).toNatClampNeg).toNatClampNeg) - (j + 1) < (((mS x) (3 : Int32).toNatClampNeg).toNatClampNeg) - j by omega) ls ?_
        show lv_has ls 6 [(0, .ref (M 0)), (1, .int child), (2, .int best), (3, .int least), (4, .int (nI k)), (5, .int (nI (j + 1)))]
        rw [nI_succ]
        exact lv_sub hl [1, 2, 3, 4, 5, 0] rfl
  · refine lv_iconst (v := (-1)) hx hb dX6_next_8 (by decide) ?_
    have hE9 : r_next x He child = ((-1), He) := (by (try unfold r_next); (repeat rw [if_neg h_1]); first | done | rfl)
    exact wr_iret hx hb hr hlocks dX6_next_9 hS (by first | exact f_s | (rw [hE9]; exact f_s)) (by rw [hE9]; first | done | rfl)
theorem c2_X6_next (l : Launch) (G : GG) (M : Nat → Nat) (x : MT) (He : Nat → Int32) (child : Int32)  (hI : mI (mS x)) (hO : mO (mS x)) (hMW : mW (mS x)) (hN : mN M) (r9 : Int32) (He9 : Nat → Int32) (hy9 : r_next x He child = (r9, He9)) : Met l yX6_next wsX6_next { frames := 4, cells := 0, slots := 0, locals := 106 } (roP G [.ref (M 0), .int child] (fun H => MHe G M x He H)) (wrQ (some (.int r9)) (fun H => MHe G M x He9 H) (m34 M)) 0 0 (m34 M) := by
  have h9 := c_X6_next l G M x He child hI hO hMW hN
  rw [hy9] at h9
  exact h9

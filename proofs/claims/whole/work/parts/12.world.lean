abbrev LawT : Type := Int32 × Int32 × Int32 × Int32 × (Nat → Int32) × RwT × (Nat → Int32) × Nat
abbrev TpT : Type := Nat × Nat × (Nat → Int32)
abbrev WT : Type := RwT × RwT × RwT × TpT × (Nat → LawT) × Nat
abbrev wCh (w : WT) : RwT := w.1
abbrev wAs (w : WT) : RwT := w.2.1
abbrev wAn (w : WT) : RwT := w.2.2.1
abbrev wTp (w : WT) : TpT := w.2.2.2.1
abbrev wLw (w : WT) (i : Nat) : LawT := w.2.2.2.2.1 i
abbrev wLc (w : WT) : Nat := w.2.2.2.2.2
abbrev lNum (x : LawT) : Int32 := x.1
abbrev lKind (x : LawT) : Int32 := x.2.1
abbrev lV (x : LawT) : Int32 := x.2.2.1
abbrev lSlip (x : LawT) : Int32 := x.2.2.2.1
abbrev lFrom (x : LawT) : Nat → Int32 := x.2.2.2.2.1
abbrev lOv (x : LawT) : RwT := x.2.2.2.2.2.1
abbrev lSt (x : LawT) : Nat → Int32 := x.2.2.2.2.2.2.1
abbrev lSc (x : LawT) : Nat := x.2.2.2.2.2.2.2
/-- a Law: A 0 itself, A 1 from, A 2 overs and A 3 their cells, A 4 steps -/
def LwAt (G : GG) (A : Nat → Nat) (x : LawT) (H : Heap) : Prop := oA G (A 0) 1 [.int (lNum x), .int (lKind x), .int (lV x), .int (lSlip x), .ref (A 1), .ref (A 2), .ref (A 4), .int (nI (lSc x))] H ∧ iA G 1 (A 1) 4 (lFrom x) H ∧ RwAt G (A 2) (A 3) 10 3 (lOv x) H ∧ iA G 1 (A 4) 120 (lSt x) H ∧ lSc x ≤ 120
/-- a Tape: its size, place, bytes -/
def TpAt (G : GG) (t0 t1 : Nat) (x : TpT) (H : Heap) : Prop := oA G t0 3 [.ref t1, .int (nI x.1), .int (nI x.2.1)] H ∧ iA G 0 t1 120 x.2.2 H ∧ x.1 ≤ 120 ∧ x.2.1 ≤ 120
/-- a World at ad 0, with all that it holds -/
def WAt (G : GG) (ad : Nat → Nat) (w : WT) (H : Heap) : Prop := oA G (ad 0) 4 [.ref (ad 1), .ref (ad 3), .ref (ad 5), .ref (ad 7), .ref (ad 9), .int (nI (wLc w))] H ∧ RwAt G (ad 1) (ad 2) 8 5 (wCh w) H ∧ RwAt G (ad 3) (ad 4) 16 7 (wAs w) H ∧ RwAt G (ad 5) (ad 6) 40 5 (wAn w) H ∧ TpAt G (ad 7) (ad 8) (wTp w) H ∧ (∃ q : Nat → Option Nat, qA G (ad 9) 8 q H ∧ ∀ i : Nat, i < 8 → q i = some (ad (10 + 5 * i))) ∧ (∀ i : Nat, i < 8 → LwAt G (fun j => ad (10 + 5 * i + j)) (wLw w i) H) ∧ wLc w ≤ 8
theorem LwAt.kept {G : GG} {A : Nat → Nat} {x : LawT} {H H1 : Heap} (h : LwAt G A x H) (hq : ∀ j, j < 5 → H1[A j]? = H[A j]?) : LwAt G A x H1 := ⟨h.1.kept (hq 0 (by decide)), h.2.1.kept (hq 1 (by decide)), h.2.2.1.kept (hq 2 (by decide)) (hq 3 (by decide)), h.2.2.2.1.kept (hq 4 (by decide)), h.2.2.2.2⟩
theorem TpAt.kept {G : GG} {a b : Nat} {x : TpT} {H H1 : Heap} (h : TpAt G a b x H) (ha : H1[a]? = H[a]?) (hb : H1[b]? = H[b]?) : TpAt G a b x H1 := ⟨h.1.kept ha, h.2.1.kept hb, h.2.2⟩
theorem WAt.kept {G : GG} {ad : Nat → Nat} {w : WT} {H H1 : Heap} (h : WAt G ad w H) (hq : ∀ j, j < 50 → H1[ad j]? = H[ad j]?) : WAt G ad w H1 := by
  obtain ⟨h1, h2, h3, h4, h5, ⟨q, h6, h6b⟩, h7, h8⟩ := h
  exact ⟨h1.kept (hq 0 (by decide)), h2.kept (hq 1 (by decide)) (hq 2 (by decide)), h3.kept (hq 3 (by decide)) (hq 4 (by decide)), h4.kept (hq 5 (by decide)) (hq 6 (by decide)), h5.kept (hq 7 (by decide)) (hq 8 (by decide)), ⟨q, h6.kept (hq 9 (by decide)), h6b⟩, fun i hi => (h7 i hi).kept (fun j hj => hq (10 + 5 * i + j) (by omega)), h8⟩
theorem i_X4_hasLaw_X4 : ∀ w ∈ wsX40, w ∈ wsX4_hasLaw := fun _ h => List.mem_cons_of_mem _ (List.mem_append_right _ h)
theorem k_X4_hasLaw_fieldLink_47 : Cond.fieldLink RX4 47 "SameWater$World" "lawCount" "I" ∈ wsX4_hasLaw := by decide +kernel
def w_hasLaw (wd : WT) (law : Int32) : Bool := (if law < 0 then false else if (nI (wLc wd)) ≤ law then false else if 8 ≤ law then false else true)
set_option maxHeartbeats 4000000 in
set_option maxRecDepth 100000 in
theorem c_X4_hasLaw (l : Launch) (G : GG) (ad : Nat → Nat) (wd : WT) (law : Int32)  : Met l yX4_hasLaw wsX4_hasLaw { frames := 0, cells := 0, slots := 0, locals := 0 } (roP G [.ref (ad 0), .int law] (fun H => WAt G ad wd H)) (roQ (some (.int (b2i (w_hasLaw wd law))))) 0 0 nF := by
  refine Met.ofW (cc := cX4_hasLaw) (maxL := 2) (ret := (some .boolean)) (by decide) rfl ?_
  intro p e s m args below meth c s₁ Bd hml hv
  obtain ⟨rfl, hK, hB⟩ := hv
  have hx := Bd.exec
  have hb := Bd.bytes
  have hr := Bd.returns
  have hts := atoms_spec (ws := wsX4_hasLaw) Bd.pre
  have hown : s.vm.findClass RX4 = some m.cls := findClass_of_methodNamed Bd.named
  have hlocks := Bd.notSynchronized
  have hC : CallFix p m c cX4_hasLaw 2 s _ wsX4_hasLaw RX4 := ⟨hx, hb, hml, hown, hts⟩
  have hl := lv_entry ([.ref (ad 0), .int law]) (n := 2) (Nat.le_of_ble_eq_true rfl)
  rw [lg_entry_eq]
  generalize (lg_sl ([.ref (ad 0), .int law]) ++ List.replicate (2 - (lg_sl ([.ref (ad 0), .int law])).length) Slot.unset).toArray = ls at hl ⊢
  have hl : lv_has ls 2 [(0, .ref (ad 0)), (1, .int law)] := hl
  have hW := hB
  obtain ⟨f_o, f_ch, f_as, f_an, f_tp, ⟨qf, f_q, hqf⟩, f_lw, hlc⟩ := hB
  refine lv_iload_n hx hb dX4_hasLaw_0 rfl (lv_at hl 1 rfl) ?_
  refine join_at (nL := 2) 23 [(0, .ref (ad 0)), (1, .int law)] [.int (b2i (if law < 0 then false else if (nI (wLc wd)) ≤ law then false else if 8 ≤ law then false else true))] (fun ls hl => ?_) (fun J_1 => ?_)
  · exact ro_zret hx hb hr hlocks dX4_hasLaw_23 rfl
  · refine lv_if_lt (tgt := 22) hx hb dX4_hasLaw_1 (by decide) (fun h_2 => ?_) (fun h_2 => ?_)
    · refine lv_iconst (v := 0) hx hb dX4_hasLaw_22 (by decide) ?_
      have hJ := J_1; (repeat rw [if_pos h_2] at hJ)
      first | exact hJ ls (lv_sub hl [0, 1] rfl) | ((repeat rw [if_pos h_2] at hl); (repeat rw [if_pos h_2]); exact hJ ls (lv_sub hl [0, 1] rfl))
    · refine lv_iload_n hx hb dX4_hasLaw_4 rfl (lv_at hl 1 rfl) ?_
      refine lv_aload_n hx hb dX4_hasLaw_5 rfl (lv_at hl 0 rfl) ?_
      refine r_get (C := RX4) (T := TX4) (N := 6) hx hb hts i_X4_hasLaw_X4 hown hK f_o rfl 5 (by decide) k_X4_hasLaw_fieldLink_47 rfl rfl dX4_hasLaw_6 ?_
      refine lv_icmp_ge (tgt := 22) hx hb dX4_hasLaw_9 (by decide) (fun h_3 => ?_) (fun h_3 => ?_)
      · refine lv_iconst (v := 0) hx hb dX4_hasLaw_22 (by decide) ?_
        have hJ := J_1; (repeat rw [if_neg h_2] at hJ); (repeat rw [if_pos h_3] at hJ)
        first | exact hJ ls (lv_sub hl [0, 1] rfl) | ((repeat rw [if_neg h_2] at hl); (repeat rw [if_pos h_3] at hl); (repeat rw [if_neg h_2]); (repeat rw [if_pos h_3]); exact hJ ls (lv_sub hl [0, 1] rfl))
      · refine lv_iload_n hx hb dX4_hasLaw_12 rfl (lv_at hl 1 rfl) ?_
        refine lv_bipush (v := 8) hx hb dX4_hasLaw_13 (by decide +kernel) ?_
        refine lv_icmp_ge (tgt := 22) hx hb dX4_hasLaw_15 (by decide) (fun h_4 => ?_) (fun h_4 => ?_)
        · refine lv_iconst (v := 0) hx hb dX4_hasLaw_22 (by decide) ?_
          have hJ := J_1; (repeat rw [if_neg h_2] at hJ); (repeat rw [if_neg h_3] at hJ); (repeat rw [if_pos h_4] at hJ)
          first | exact hJ ls (lv_sub hl [0, 1] rfl) | ((repeat rw [if_neg h_2] at hl); (repeat rw [if_neg h_3] at hl); (repeat rw [if_pos h_4] at hl); (repeat rw [if_neg h_2]); (repeat rw [if_neg h_3]); (repeat rw [if_pos h_4]); exact hJ ls (lv_sub hl [0, 1] rfl))
        · refine lv_iconst (v := 1) hx hb dX4_hasLaw_18 (by decide) ?_
          refine lv_goto (tgt := 23) hx hb dX4_hasLaw_19 (by decide) ?_
          have hJ := J_1; (repeat rw [if_neg h_2] at hJ); (repeat rw [if_neg h_3] at hJ); (repeat rw [if_neg h_4] at hJ)
          first | exact hJ ls (lv_sub hl [0, 1] rfl) | ((repeat rw [if_neg h_2] at hl); (repeat rw [if_neg h_3] at hl); (repeat rw [if_neg h_4] at hl); (repeat rw [if_neg h_2]); (repeat rw [if_neg h_3]); (repeat rw [if_neg h_4]); exact hJ ls (lv_sub hl [0, 1] rfl))
theorem hasLaw_in {wd : WT} {law : Int32} (h : w_hasLaw wd law = true) : vp_in law 8 := by
  unfold w_hasLaw at h
  split at h
  · cases h
  · split at h
    · cases h
    · split at h
      · cases h
      · rename_i h1 h2 h3
        exact vp_of (n := 8) rfl h1 h3 (by decide)
theorem i_X4_isTaughtSome_X4 : ∀ w ∈ wsX40, w ∈ wsX4_isTaughtSome := fun _ h => List.mem_cons_of_mem _ (List.mem_append_left _ (List.mem_append_right _ h))
theorem k_X4_isTaughtSome_fieldLink_14 : Cond.fieldLink RX4 14 "SameWater$World" "children" "LSameWater$Rows;" ∈ wsX4_isTaughtSome := by decide +kernel
theorem k_X4_isTaughtSome_constant_62 : Cond.constant RX4 62 (100000) ∈ wsX4_isTaughtSome := by decide +kernel
theorem kd_X2_at : yX2_at.cls = RX2 ∧ yX2_at.cls ≠ "java/lang/invoke/MethodHandle" ∧ yX2_at.cls ≠ "java/lang/invoke/VarHandle" ∧ (parseMethodDescriptor yX2_at.desc).map (fun d => d.parameters.length) = some 2 := by decide +kernel
def w_taughtGo (wd : WT) (child : Int32) : Nat → Nat → Bool
  | 0, _ => false
  | n + 1, k => if (f_at 5 (wCh wd) child (1 + (nI k))) = 100000 then w_taughtGo wd child n (k + 1)  else true
theorem w_taughtGo_0 (wd : WT) (child : Int32) (k : Nat)  : w_taughtGo wd child 0 k  = (false) := rfl
theorem w_taughtGo_s (wd : WT) (child : Int32) (n k : Nat)  : w_taughtGo wd child (n + 1) k  = (if (f_at 5 (wCh wd) child (1 + (nI k))) = 100000 then w_taughtGo wd child n (k + 1)  else true) := rfl
def w_isTaughtSome (wd : WT) (child : Int32) : Bool := (w_taughtGo wd child 4 0 )
set_option maxHeartbeats 4000000 in
set_option maxRecDepth 100000 in
theorem c_X4_isTaughtSome (l : Launch) (G : GG) (ad : Nat → Nat) (wd : WT) (child : Int32)  : Met l yX4_isTaughtSome wsX4_isTaughtSome { frames := 1, cells := 0, slots := 0, locals := 22 } (roP G [.ref (ad 0), .int child] (fun H => WAt G ad wd H)) (roQ (some (.int (b2i (w_isTaughtSome wd child))))) 0 0 nF := by
  refine Met.ofW (cc := cX4_isTaughtSome) (maxL := 3) (ret := (some .boolean)) (by decide) rfl ?_
  intro p e s m args below meth c s₁ Bd hml hv
  obtain ⟨rfl, hK, hB⟩ := hv
  have hx := Bd.exec
  have hb := Bd.bytes
  have hr := Bd.returns
  have hts := atoms_spec (ws := wsX4_isTaughtSome) Bd.pre
  have hown : s.vm.findClass RX4 = some m.cls := findClass_of_methodNamed Bd.named
  have hlocks := Bd.notSynchronized
  have hC : CallFix p m c cX4_isTaughtSome 3 s _ wsX4_isTaughtSome RX4 := ⟨hx, hb, hml, hown, hts⟩
  have hl := lv_entry ([.ref (ad 0), .int child]) (n := 3) (Nat.le_of_ble_eq_true rfl)
  rw [lg_entry_eq]
  generalize (lg_sl ([.ref (ad 0), .int child]) ++ List.replicate (3 - (lg_sl ([.ref (ad 0), .int child])).length) Slot.unset).toArray = ls at hl ⊢
  have hl : lv_has ls 3 [(0, .ref (ad 0)), (1, .int child)] := hl
  have hW := hB
  obtain ⟨f_o, f_ch, f_as, f_an, f_tp, ⟨qf, f_q, hqf⟩, f_lw, hlc⟩ := hB
  refine lv_iconst (v := 0) hx hb dX4_isTaughtSome_0 (by decide) ?_
  refine lv_istore_n (lv' := [(2, .int 0), (0, .ref (ad 0)), (1, .int child)]) hx hb dX4_isTaughtSome_1 rfl hl (by decide) rfl (fun ls hl => ?_)
  refine loop_at (nL := 3) (α := Nat) (fun a9 => [(0, .ref (ad 0)), (1, .int child), (2, .int (nI a9))]) (fun a9 => a9 ≤ 4 ∧ w_taughtGo wd child (4 - a9) a9  = w_taughtGo wd child 4 0 ) (fun a9 => 4 - a9) 0 ⟨(by first | exact Nat.zero_le _ | decide | omega), rfl⟩ (lv_sub hl [1, 2, 0] rfl) (fun a9 hI9 ih_k ls hl => ?_)
  obtain ⟨k, rfl⟩ : ∃ z, z = a9 := ⟨_, rfl⟩
  obtain ⟨hk_k, hV⟩ : k ≤ 4 ∧ w_taughtGo wd child (4 - k) k  = w_taughtGo wd child 4 0  := hI9
  have hl : lv_has ls 3 [(0, .ref (ad 0)), (1, .int child), (2, .int (nI k))] := hl
  refine lv_iload_n hx hb dX4_isTaughtSome_2 rfl (lv_at hl 2 rfl) ?_
  refine lv_iconst (v := 4) hx hb dX4_isTaughtSome_3 (by decide) ?_
  refine lv_icmp_ge (tgt := 31) hx hb dX4_isTaughtSome_4 (by decide) (fun h_1 => ?_) (fun h_1 => ?_)
  · have hN_k : k = 4 := ge_ex (N := 4) rfl h_1 hk_k (by omega)
    subst hN_k
    rw [Nat.sub_self] at hV
    refine lv_iconst (v := 0) hx hb dX4_isTaughtSome_31 (by decide) ?_
    exact ro_zret hx hb hr hlocks dX4_isTaughtSome_32 (by (try unfold w_isTaughtSome); rw [← hV, w_taughtGo_0]; first | done | rfl)
  · have hlt_k : k < 4 := ge_in (N := 4) rfl h_1 hk_k (by omega)
    obtain ⟨n9, hn9⟩ : ∃ n9, 4 - k = n9 + 1 := ⟨4 - k - 1, by omega⟩
    rw [hn9] at hV
    refine lv_aload_n hx hb dX4_isTaughtSome_7 rfl (lv_at hl 0 rfl) ?_
    refine r_get (C := RX4) (T := TX4) (N := 6) hx hb hts i_X4_isTaughtSome_X4 hown hK f_o rfl 0 (by decide) k_X4_isTaughtSome_fieldLink_14 rfl rfl dX4_isTaughtSome_8 ?_
    refine lv_iload_n hx hb dX4_isTaughtSome_11 rfl (lv_at hl 1 rfl) ?_
    refine lv_iconst (v := 1) hx hb dX4_isTaughtSome_12 (by decide) ?_
    refine lv_iload_n hx hb dX4_isTaughtSome_13 rfl (lv_at hl 2 rfl) ?_
    refine lv_iadd hx hb dX4_isTaughtSome_14 ?_
    refine ro_call (va_runV (As := [.int child, .int (1 + (nI k))]) (rest := []) hC (c_X2_at l G (ad 1) (ad 2) 8 5 (wCh wd) child (1 + (nI k))) (cwV 2 hts gX4_isTaughtSome_X2_at rfl rfl rfl kd_X2_at ⟨Nat.le_of_ble_eq_true rfl, Nat.le_of_ble_eq_true rfl⟩) (ro_preV hK f_ch.1 rfl f_ch) rfl rfl hl.1 rfl (lv_room (Nat.le_of_ble_eq_true rfl)) dX4_isTaughtSome_15 ⟨Nat.zero_le _, Nat.zero_le _⟩) ?_
    refine lv_ldc (v := 100000) hx hb hown (hts _ k_X4_isTaughtSome_constant_62) dX4_isTaughtSome_18 ?_
    refine lv_icmp_eq (tgt := 25) hx hb dX4_isTaughtSome_20 (by decide) (fun h_2 => ?_) (fun h_2 => ?_)
    · refine lv_iinc (v := (nI k) + 1) (lv' := [(2, .int ((nI k) + 1)), (0, .ref (ad 0)), (1, .int child)]) hx hb dX4_isTaughtSome_25 hl (k := 2) rfl rfl (by decide) rfl (fun ls hl => ?_)
      refine lv_goto (tgt := 2) hx hb dX4_isTaughtSome_28 (by decide) ?_
      have hE : w_taughtGo wd child n9 (k + 1)  = w_taughtGo wd child 4 0  := (by rw [← hV, w_taughtGo_s]; (repeat rw [if_pos h_2]); first | done | rfl)
      refine ih_k (k + 1) ⟨(show k + 1 ≤ 4 by omega), (by show w_taughtGo wd child (4 - (k + 1)) (k + 1)  = _; rw [show 4 - (k + 1) = n9 by omega]; exact hE)⟩ (show 4 - (k + 1) < 4 - k by omega) ls ?_
      show lv_has ls 3 [(0, .ref (ad 0)), (1, .int child), (2, .int (nI (k + 1)))]
      rw [nI_succ]
      exact lv_sub hl [1, 2, 0] rfl
    · refine lv_iconst (v := 1) hx hb dX4_isTaughtSome_23 (by decide) ?_
      exact ro_zret hx hb hr hlocks dX4_isTaughtSome_24 (by (try unfold w_isTaughtSome); rw [← hV, w_taughtGo_s]; (repeat rw [if_neg h_1]); (repeat rw [if_neg h_2]); first | done | rfl)
theorem i_X4_asLooks_X4 : ∀ w ∈ wsX40, w ∈ wsX4_asLooks := fun _ h => List.mem_cons_of_mem _ (List.mem_append_left _ (List.mem_append_right _ h))
theorem k_X4_asLooks_fieldLink_20 : Cond.fieldLink RX4 20 "SameWater$World" "askings" "LSameWater$Rows;" ∈ wsX4_asLooks := by decide +kernel
theorem k_X4_asLooks_methodLink_114 : Cond.methodLink RX4 114 Lib.Math.max.name ∈ wsX4_asLooks := by decide +kernel
theorem k_X4_asLooks_mst_114 : Cond.static Lib.Math.max.name ∈ wsX4_asLooks := by decide +kernel
theorem k_X4_asLooks_min_114 : Cond.initialized "java/lang/Math" ∈ wsX4_asLooks := by decide +kernel
theorem k_X4_asLooks_mco_114 : Cond.code Lib.Math.max.name Lib.Math.max.code 2 (some .int) ∈ wsX4_asLooks := by decide +kernel
def w_asLooks (wd : WT) (asking : Int32) (least : Int32) : Int32 := if (f_at 7 (wAs wd) asking 5) < (if least < 1 then 1 else least) then b2i (if (-(if least < 1 then 1 else least)) < (f_at 7 (wAs wd) asking 5) then true else false) else 2
set_option maxHeartbeats 4000000 in
set_option maxRecDepth 100000 in
theorem c_X4_asLooks (l : Launch) (G : GG) (ad : Nat → Nat) (wd : WT) (asking : Int32) (least : Int32)  : Met l yX4_asLooks wsX4_asLooks { frames := 1, cells := 0, slots := 0, locals := 40 } (roP G [.ref (ad 0), .int asking, .int least] (fun H => WAt G ad wd H)) (roQ (some (.int (w_asLooks wd asking least)))) 0 0 nF := by
  refine Met.ofW (cc := cX4_asLooks) (maxL := 4) (ret := (some .int)) (by decide) rfl ?_
  intro p e s m args below meth c s₁ Bd hml hv
  obtain ⟨rfl, hK, hB⟩ := hv
  have hx := Bd.exec
  have hb := Bd.bytes
  have hr := Bd.returns
  have hts := atoms_spec (ws := wsX4_asLooks) Bd.pre
  have hown : s.vm.findClass RX4 = some m.cls := findClass_of_methodNamed Bd.named
  have hlocks := Bd.notSynchronized
  have hC : CallFix p m c cX4_asLooks 4 s _ wsX4_asLooks RX4 := ⟨hx, hb, hml, hown, hts⟩
  have hl := lv_entry ([.ref (ad 0), .int asking, .int least]) (n := 4) (Nat.le_of_ble_eq_true rfl)
  rw [lg_entry_eq]
  generalize (lg_sl ([.ref (ad 0), .int asking, .int least]) ++ List.replicate (4 - (lg_sl ([.ref (ad 0), .int asking, .int least])).length) Slot.unset).toArray = ls at hl ⊢
  have hl : lv_has ls 4 [(0, .ref (ad 0)), (1, .int asking), (2, .int least)] := hl
  have hW := hB
  obtain ⟨f_o, f_ch, f_as, f_an, f_tp, ⟨qf, f_q, hqf⟩, f_lw, hlc⟩ := hB
  refine lv_aload_n hx hb dX4_asLooks_0 rfl (lv_at hl 0 rfl) ?_
  refine r_get (C := RX4) (T := TX4) (N := 6) hx hb hts i_X4_asLooks_X4 hown hK f_o rfl 1 (by decide) k_X4_asLooks_fieldLink_20 rfl rfl dX4_asLooks_1 ?_
  refine lv_iload_n hx hb dX4_asLooks_4 rfl (lv_at hl 1 rfl) ?_
  refine lv_iconst (v := 5) hx hb dX4_asLooks_5 (by decide) ?_
  refine ro_call (va_runV (As := [.int asking, .int 5]) (rest := []) hC (c_X2_at l G (ad 3) (ad 4) 16 7 (wAs wd) asking 5) (cwV 2 hts gX4_asLooks_X2_at rfl rfl rfl kd_X2_at ⟨Nat.le_of_ble_eq_true rfl, Nat.le_of_ble_eq_true rfl⟩) (ro_preV hK f_as.1 rfl f_as) rfl rfl hl.1 rfl (lv_room (Nat.le_of_ble_eq_true rfl)) dX4_asLooks_6 ⟨Nat.zero_le _, Nat.zero_le _⟩) ?_
  refine lv_istore_n (lv' := [(3, .int (f_at 7 (wAs wd) asking 5)), (0, .ref (ad 0)), (1, .int asking), (2, .int least)]) hx hb dX4_asLooks_9 rfl hl (by decide) rfl (fun ls hl => ?_)
  refine lv_iload_n hx hb dX4_asLooks_10 rfl (lv_at hl 0 rfl) ?_
  refine lv_iload_n hx hb dX4_asLooks_11 rfl (lv_at hl 3 rfl) ?_
  refine lv_iconst (v := 1) hx hb dX4_asLooks_12 (by decide) ?_
  refine va_mmax hx hb (hml.trans hl.1.symm) hown (hts _ k_X4_asLooks_methodLink_114) (hts _ k_X4_asLooks_mst_114) (hts _ k_X4_asLooks_min_114) (hts _ k_X4_asLooks_mco_114) (Nat.le_of_ble_eq_true rfl) (Nat.le_of_ble_eq_true rfl) (Nat.zero_le _) (Nat.zero_le _) dX4_asLooks_13 ?_
  refine lv_icmp_lt (tgt := 21) hx hb dX4_asLooks_16 (by decide) (fun h_1 => ?_) (fun h_1 => ?_)
  · refine lv_iload_n hx hb dX4_asLooks_21 rfl (lv_at hl 0 rfl) ?_
    refine lv_iload_n hx hb dX4_asLooks_22 rfl (lv_at hl 3 rfl) ?_
    refine lv_iconst (v := 1) hx hb dX4_asLooks_23 (by decide) ?_
    refine va_mmax hx hb (hml.trans hl.1.symm) hown (hts _ k_X4_asLooks_methodLink_114) (hts _ k_X4_asLooks_mst_114) (hts _ k_X4_asLooks_min_114) (hts _ k_X4_asLooks_mco_114) (Nat.le_of_ble_eq_true rfl) (Nat.le_of_ble_eq_true rfl) (Nat.zero_le _) (Nat.zero_le _) dX4_asLooks_24 ?_
    refine lv_ineg hx hb dX4_asLooks_27 ?_
    refine join_at (nL := 4) 36 [(3, .int (f_at 7 (wAs wd) asking 5)), (0, .ref (ad 0)), (1, .int asking), (2, .int least)] [.int (b2i (if (-(if least < 1 then 1 else least)) < (f_at 7 (wAs wd) asking 5) then true else false))] (fun ls hl => ?_) (fun J_2 => ?_)
    · exact ro_iret hx hb hr hlocks dX4_asLooks_36 (by (try unfold w_asLooks); (repeat rw [if_pos h_1]); first | done | rfl)
    · refine lv_icmp_gt (tgt := 35) hx hb dX4_asLooks_28 (by decide) (fun h_3 => ?_) (fun h_3 => ?_)
      · refine lv_iconst (v := 1) hx hb dX4_asLooks_35 (by decide) ?_
        have hJ := J_2; (repeat rw [if_pos h_3] at hJ)
        first | exact hJ ls (lv_sub hl [0, 1, 2, 3] rfl) | ((repeat rw [if_pos h_3] at hl); (repeat rw [if_pos h_3]); exact hJ ls (lv_sub hl [0, 1, 2, 3] rfl))
      · refine lv_iconst (v := 0) hx hb dX4_asLooks_31 (by decide) ?_
        refine lv_goto (tgt := 36) hx hb dX4_asLooks_32 (by decide) ?_
        have hJ := J_2; (repeat rw [if_neg h_3] at hJ)
        first | exact hJ ls (lv_sub hl [0, 1, 2, 3] rfl) | ((repeat rw [if_neg h_3] at hl); (repeat rw [if_neg h_3]); exact hJ ls (lv_sub hl [0, 1, 2, 3] rfl))
  · refine lv_iconst (v := 2) hx hb dX4_asLooks_19 (by decide) ?_
    exact ro_iret hx hb hr hlocks dX4_asLooks_20 (by (try unfold w_asLooks); (repeat rw [if_neg h_1]); first | done | rfl)
theorem i_X4_isPressed_X4 : ∀ w ∈ wsX40, w ∈ wsX4_isPressed := fun _ h => List.mem_cons_of_mem _ (List.mem_append_left _ (List.mem_append_right _ h))
theorem k_X4_isPressed_fieldLink_20 : Cond.fieldLink RX4 20 "SameWater$World" "askings" "LSameWater$Rows;" ∈ wsX4_isPressed := by decide +kernel
def w_isPressed (wd : WT) (asking : Int32) : Bool := (if (f_at 7 (wAs wd) asking 1) = 0 then if (f_at 7 (wAs wd) asking 2) = 2 then true else false else false)
set_option maxHeartbeats 4000000 in
set_option maxRecDepth 100000 in
theorem c_X4_isPressed (l : Launch) (G : GG) (ad : Nat → Nat) (wd : WT) (asking : Int32)  : Met l yX4_isPressed wsX4_isPressed { frames := 1, cells := 0, slots := 0, locals := 22 } (roP G [.ref (ad 0), .int asking] (fun H => WAt G ad wd H)) (roQ (some (.int (b2i (w_isPressed wd asking))))) 0 0 nF := by
  refine Met.ofW (cc := cX4_isPressed) (maxL := 2) (ret := (some .boolean)) (by decide) rfl ?_
  intro p e s m args below meth c s₁ Bd hml hv
  obtain ⟨rfl, hK, hB⟩ := hv
  have hx := Bd.exec
  have hb := Bd.bytes
  have hr := Bd.returns
  have hts := atoms_spec (ws := wsX4_isPressed) Bd.pre
  have hown : s.vm.findClass RX4 = some m.cls := findClass_of_methodNamed Bd.named
  have hlocks := Bd.notSynchronized
  have hC : CallFix p m c cX4_isPressed 2 s _ wsX4_isPressed RX4 := ⟨hx, hb, hml, hown, hts⟩
  have hl := lv_entry ([.ref (ad 0), .int asking]) (n := 2) (Nat.le_of_ble_eq_true rfl)
  rw [lg_entry_eq]
  generalize (lg_sl ([.ref (ad 0), .int asking]) ++ List.replicate (2 - (lg_sl ([.ref (ad 0), .int asking])).length) Slot.unset).toArray = ls at hl ⊢
  have hl : lv_has ls 2 [(0, .ref (ad 0)), (1, .int asking)] := hl
  have hW := hB
  obtain ⟨f_o, f_ch, f_as, f_an, f_tp, ⟨qf, f_q, hqf⟩, f_lw, hlc⟩ := hB
  refine lv_aload_n hx hb dX4_isPressed_0 rfl (lv_at hl 0 rfl) ?_
  refine r_get (C := RX4) (T := TX4) (N := 6) hx hb hts i_X4_isPressed_X4 hown hK f_o rfl 1 (by decide) k_X4_isPressed_fieldLink_20 rfl rfl dX4_isPressed_1 ?_
  refine lv_iload_n hx hb dX4_isPressed_4 rfl (lv_at hl 1 rfl) ?_
  refine lv_iconst (v := 1) hx hb dX4_isPressed_5 (by decide) ?_
  refine ro_call (va_runV (As := [.int asking, .int 1]) (rest := []) hC (c_X2_at l G (ad 3) (ad 4) 16 7 (wAs wd) asking 1) (cwV 2 hts gX4_isPressed_X2_at rfl rfl rfl kd_X2_at ⟨Nat.le_of_ble_eq_true rfl, Nat.le_of_ble_eq_true rfl⟩) (ro_preV hK f_as.1 rfl f_as) rfl rfl hl.1 rfl (lv_room (Nat.le_of_ble_eq_true rfl)) dX4_isPressed_6 ⟨Nat.zero_le _, Nat.zero_le _⟩) ?_
  refine join_at (nL := 2) 30 [(0, .ref (ad 0)), (1, .int asking)] [.int (b2i (if (f_at 7 (wAs wd) asking 1) = 0 then if (f_at 7 (wAs wd) asking 2) = 2 then true else false else false))] (fun ls hl => ?_) (fun J_1 => ?_)
  · exact ro_zret hx hb hr hlocks dX4_isPressed_30 rfl
  · refine lv_if_ne (tgt := 29) hx hb dX4_isPressed_9 (by decide) (fun h_2 => ?_) (fun h_2 => ?_)
    · refine lv_iconst (v := 0) hx hb dX4_isPressed_29 (by decide) ?_
      have hJ := J_1; (repeat rw [if_neg h_2] at hJ)
      first | exact hJ ls (lv_sub hl [0, 1] rfl) | ((repeat rw [if_neg h_2] at hl); (repeat rw [if_neg h_2]); exact hJ ls (lv_sub hl [0, 1] rfl))
    · refine lv_aload_n hx hb dX4_isPressed_12 rfl (lv_at hl 0 rfl) ?_
      refine r_get (C := RX4) (T := TX4) (N := 6) hx hb hts i_X4_isPressed_X4 hown hK f_o rfl 1 (by decide) k_X4_isPressed_fieldLink_20 rfl rfl dX4_isPressed_13 ?_
      refine lv_iload_n hx hb dX4_isPressed_16 rfl (lv_at hl 1 rfl) ?_
      refine lv_iconst (v := 2) hx hb dX4_isPressed_17 (by decide) ?_
      refine ro_call (va_runV (As := [.int asking, .int 2]) (rest := []) hC (c_X2_at l G (ad 3) (ad 4) 16 7 (wAs wd) asking 2) (cwV 2 hts gX4_isPressed_X2_at rfl rfl rfl kd_X2_at ⟨Nat.le_of_ble_eq_true rfl, Nat.le_of_ble_eq_true rfl⟩) (ro_preV hK f_as.1 rfl f_as) rfl rfl hl.1 rfl (lv_room (Nat.le_of_ble_eq_true rfl)) dX4_isPressed_18 ⟨Nat.zero_le _, Nat.zero_le _⟩) ?_
      refine lv_iconst (v := 2) hx hb dX4_isPressed_21 (by decide) ?_
      refine lv_icmp_ne (tgt := 29) hx hb dX4_isPressed_22 (by decide) (fun h_3 => ?_) (fun h_3 => ?_)
      · refine lv_iconst (v := 0) hx hb dX4_isPressed_29 (by decide) ?_
        have hJ := J_1; (repeat rw [if_pos h_2] at hJ); (repeat rw [if_neg h_3] at hJ)
        first | exact hJ ls (lv_sub hl [0, 1] rfl) | ((repeat rw [if_pos h_2] at hl); (repeat rw [if_neg h_3] at hl); (repeat rw [if_pos h_2]); (repeat rw [if_neg h_3]); exact hJ ls (lv_sub hl [0, 1] rfl))
      · refine lv_iconst (v := 1) hx hb dX4_isPressed_25 (by decide) ?_
        refine lv_goto (tgt := 30) hx hb dX4_isPressed_26 (by decide) ?_
        have hJ := J_1; (repeat rw [if_pos h_2] at hJ); (repeat rw [if_pos h_3] at hJ)
        first | exact hJ ls (lv_sub hl [0, 1] rfl) | ((repeat rw [if_pos h_2] at hl); (repeat rw [if_pos h_3] at hl); (repeat rw [if_pos h_2]); (repeat rw [if_pos h_3]); exact hJ ls (lv_sub hl [0, 1] rfl))
theorem i_X4_isSame_X4 : ∀ w ∈ wsX40, w ∈ wsX4_isSame := fun _ h => List.mem_cons_of_mem _ (List.mem_append_left _ (List.mem_append_right _ h))
theorem k_X4_isSame_fieldLink_23 : Cond.fieldLink RX4 23 "SameWater$World" "answers" "LSameWater$Rows;" ∈ wsX4_isSame := by decide +kernel
def w_isSame (wd : WT) (answer : Int32) : Bool := (if (f_at 5 (wAn wd) answer 2) = 1 then true else false)
set_option maxHeartbeats 4000000 in
set_option maxRecDepth 100000 in
theorem c_X4_isSame (l : Launch) (G : GG) (ad : Nat → Nat) (wd : WT) (answer : Int32)  : Met l yX4_isSame wsX4_isSame { frames := 1, cells := 0, slots := 0, locals := 22 } (roP G [.ref (ad 0), .int answer] (fun H => WAt G ad wd H)) (roQ (some (.int (b2i (w_isSame wd answer))))) 0 0 nF := by
  refine Met.ofW (cc := cX4_isSame) (maxL := 2) (ret := (some .boolean)) (by decide) rfl ?_
  intro p e s m args below meth c s₁ Bd hml hv
  obtain ⟨rfl, hK, hB⟩ := hv
  have hx := Bd.exec
  have hb := Bd.bytes
  have hr := Bd.returns
  have hts := atoms_spec (ws := wsX4_isSame) Bd.pre
  have hown : s.vm.findClass RX4 = some m.cls := findClass_of_methodNamed Bd.named
  have hlocks := Bd.notSynchronized
  have hC : CallFix p m c cX4_isSame 2 s _ wsX4_isSame RX4 := ⟨hx, hb, hml, hown, hts⟩
  have hl := lv_entry ([.ref (ad 0), .int answer]) (n := 2) (Nat.le_of_ble_eq_true rfl)
  rw [lg_entry_eq]
  generalize (lg_sl ([.ref (ad 0), .int answer]) ++ List.replicate (2 - (lg_sl ([.ref (ad 0), .int answer])).length) Slot.unset).toArray = ls at hl ⊢
  have hl : lv_has ls 2 [(0, .ref (ad 0)), (1, .int answer)] := hl
  have hW := hB
  obtain ⟨f_o, f_ch, f_as, f_an, f_tp, ⟨qf, f_q, hqf⟩, f_lw, hlc⟩ := hB
  refine lv_aload_n hx hb dX4_isSame_0 rfl (lv_at hl 0 rfl) ?_
  refine r_get (C := RX4) (T := TX4) (N := 6) hx hb hts i_X4_isSame_X4 hown hK f_o rfl 2 (by decide) k_X4_isSame_fieldLink_23 rfl rfl dX4_isSame_1 ?_
  refine lv_iload_n hx hb dX4_isSame_4 rfl (lv_at hl 1 rfl) ?_
  refine lv_iconst (v := 2) hx hb dX4_isSame_5 (by decide) ?_
  refine ro_call (va_runV (As := [.int answer, .int 2]) (rest := []) hC (c_X2_at l G (ad 5) (ad 6) 40 5 (wAn wd) answer 2) (cwV 2 hts gX4_isSame_X2_at rfl rfl rfl kd_X2_at ⟨Nat.le_of_ble_eq_true rfl, Nat.le_of_ble_eq_true rfl⟩) (ro_preV hK f_an.1 rfl f_an) rfl rfl hl.1 rfl (lv_room (Nat.le_of_ble_eq_true rfl)) dX4_isSame_6 ⟨Nat.zero_le _, Nat.zero_le _⟩) ?_
  refine lv_iconst (v := 1) hx hb dX4_isSame_9 (by decide) ?_
  refine join_at (nL := 2) 18 [(0, .ref (ad 0)), (1, .int answer)] [.int (b2i (if (f_at 5 (wAn wd) answer 2) = 1 then true else false))] (fun ls hl => ?_) (fun J_1 => ?_)
  · exact ro_zret hx hb hr hlocks dX4_isSame_18 rfl
  · refine lv_icmp_ne (tgt := 17) hx hb dX4_isSame_10 (by decide) (fun h_2 => ?_) (fun h_2 => ?_)
    · refine lv_iconst (v := 0) hx hb dX4_isSame_17 (by decide) ?_
      have hJ := J_1; (repeat rw [if_neg h_2] at hJ)
      first | exact hJ ls (lv_sub hl [0, 1] rfl) | ((repeat rw [if_neg h_2] at hl); (repeat rw [if_neg h_2]); exact hJ ls (lv_sub hl [0, 1] rfl))
    · refine lv_iconst (v := 1) hx hb dX4_isSame_13 (by decide) ?_
      refine lv_goto (tgt := 18) hx hb dX4_isSame_14 (by decide) ?_
      have hJ := J_1; (repeat rw [if_pos h_2] at hJ)
      first | exact hJ ls (lv_sub hl [0, 1] rfl) | ((repeat rw [if_pos h_2] at hl); (repeat rw [if_pos h_2]); exact hJ ls (lv_sub hl [0, 1] rfl))
theorem i_X4_ofAsked_X4 : ∀ w ∈ wsX40, w ∈ wsX4_ofAsked := fun _ h => List.mem_cons_of_mem _ (List.mem_append_left _ (List.mem_append_right _ h))
theorem k_X4_ofAsked_fieldLink_20 : Cond.fieldLink RX4 20 "SameWater$World" "askings" "LSameWater$Rows;" ∈ wsX4_ofAsked := by decide +kernel
theorem k_X4_ofAsked_fieldLink_23 : Cond.fieldLink RX4 23 "SameWater$World" "answers" "LSameWater$Rows;" ∈ wsX4_ofAsked := by decide +kernel
def w_ofAsked (wd : WT) (answer : Int32) (column : Int32) : Int32 := f_at 7 (wAs wd) (f_at 5 (wAn wd) answer 1) column
set_option maxHeartbeats 4000000 in
set_option maxRecDepth 100000 in
theorem c_X4_ofAsked (l : Launch) (G : GG) (ad : Nat → Nat) (wd : WT) (answer : Int32) (column : Int32)  : Met l yX4_ofAsked wsX4_ofAsked { frames := 1, cells := 0, slots := 0, locals := 22 } (roP G [.ref (ad 0), .int answer, .int column] (fun H => WAt G ad wd H)) (roQ (some (.int (w_ofAsked wd answer column)))) 0 0 nF := by
  refine Met.ofW (cc := cX4_ofAsked) (maxL := 3) (ret := (some .int)) (by decide) rfl ?_
  intro p e s m args below meth c s₁ Bd hml hv
  obtain ⟨rfl, hK, hB⟩ := hv
  have hx := Bd.exec
  have hb := Bd.bytes
  have hr := Bd.returns
  have hts := atoms_spec (ws := wsX4_ofAsked) Bd.pre
  have hown : s.vm.findClass RX4 = some m.cls := findClass_of_methodNamed Bd.named
  have hlocks := Bd.notSynchronized
  have hC : CallFix p m c cX4_ofAsked 3 s _ wsX4_ofAsked RX4 := ⟨hx, hb, hml, hown, hts⟩
  have hl := lv_entry ([.ref (ad 0), .int answer, .int column]) (n := 3) (Nat.le_of_ble_eq_true rfl)
  rw [lg_entry_eq]
  generalize (lg_sl ([.ref (ad 0), .int answer, .int column]) ++ List.replicate (3 - (lg_sl ([.ref (ad 0), .int answer, .int column])).length) Slot.unset).toArray = ls at hl ⊢
  have hl : lv_has ls 3 [(0, .ref (ad 0)), (1, .int answer), (2, .int column)] := hl
  have hW := hB
  obtain ⟨f_o, f_ch, f_as, f_an, f_tp, ⟨qf, f_q, hqf⟩, f_lw, hlc⟩ := hB
  refine lv_aload_n hx hb dX4_ofAsked_0 rfl (lv_at hl 0 rfl) ?_
  refine r_get (C := RX4) (T := TX4) (N := 6) hx hb hts i_X4_ofAsked_X4 hown hK f_o rfl 1 (by decide) k_X4_ofAsked_fieldLink_20 rfl rfl dX4_ofAsked_1 ?_
  refine lv_aload_n hx hb dX4_ofAsked_4 rfl (lv_at hl 0 rfl) ?_
  refine r_get (C := RX4) (T := TX4) (N := 6) hx hb hts i_X4_ofAsked_X4 hown hK f_o rfl 2 (by decide) k_X4_ofAsked_fieldLink_23 rfl rfl dX4_ofAsked_5 ?_
  refine lv_iload_n hx hb dX4_ofAsked_8 rfl (lv_at hl 1 rfl) ?_
  refine lv_iconst (v := 1) hx hb dX4_ofAsked_9 (by decide) ?_
  refine ro_call (va_runV (As := [.int answer, .int 1]) (rest := [.ref (ad 3)]) hC (c_X2_at l G (ad 5) (ad 6) 40 5 (wAn wd) answer 1) (cwV 2 hts gX4_ofAsked_X2_at rfl rfl rfl kd_X2_at ⟨Nat.le_of_ble_eq_true rfl, Nat.le_of_ble_eq_true rfl⟩) (ro_preV hK f_an.1 rfl f_an) rfl rfl hl.1 rfl (lv_room (Nat.le_of_ble_eq_true rfl)) dX4_ofAsked_10 ⟨Nat.zero_le _, Nat.zero_le _⟩) ?_
  refine lv_iload_n hx hb dX4_ofAsked_13 rfl (lv_at hl 2 rfl) ?_
  refine ro_call (va_runV (As := [.int (f_at 5 (wAn wd) answer 1), .int column]) (rest := []) hC (c_X2_at l G (ad 3) (ad 4) 16 7 (wAs wd) (f_at 5 (wAn wd) answer 1) column) (cwV 2 hts gX4_ofAsked_X2_at rfl rfl rfl kd_X2_at ⟨Nat.le_of_ble_eq_true rfl, Nat.le_of_ble_eq_true rfl⟩) (ro_preV hK f_as.1 rfl f_as) rfl rfl hl.1 rfl (lv_room (Nat.le_of_ble_eq_true rfl)) dX4_ofAsked_14 ⟨Nat.zero_le _, Nat.zero_le _⟩) ?_
  exact ro_iret hx hb hr hlocks dX4_ofAsked_17 rfl
theorem i_X4_hasAnswered_X4 : ∀ w ∈ wsX40, w ∈ wsX4_hasAnswered := fun _ h => List.mem_cons_of_mem _ (List.mem_append_left _ (List.mem_append_right _ h))
theorem k_X4_hasAnswered_fieldLink_23 : Cond.fieldLink RX4 23 "SameWater$World" "answers" "LSameWater$Rows;" ∈ wsX4_hasAnswered := by decide +kernel
theorem i_X4_hasAnswered_X2 : ∀ w ∈ wsX20, w ∈ wsX4_hasAnswered := fun _ h => List.mem_cons_of_mem _ (List.mem_append_right _ h)
theorem k_X4_hasAnswered_fieldLink_63 : Cond.fieldLink RX4 63 "SameWater$Rows" "size" "I" ∈ wsX4_hasAnswered := by decide +kernel
def w_answGo (wd : WT) (child : Int32) : Nat → Nat → Bool
  | 0, _ => false
  | n + 1, k => if (f_at 5 (wAn wd) (nI k) 0) = child then true else w_answGo wd child n (k + 1) 
theorem w_answGo_0 (wd : WT) (child : Int32) (k : Nat)  : w_answGo wd child 0 k  = (false) := rfl
theorem w_answGo_s (wd : WT) (child : Int32) (n k : Nat)  : w_answGo wd child (n + 1) k  = (if (f_at 5 (wAn wd) (nI k) 0) = child then true else w_answGo wd child n (k + 1) ) := rfl
def w_hasAnswered (wd : WT) (child : Int32) : Bool := (w_answGo wd child ((wAn wd).1) 0 )
set_option maxHeartbeats 4000000 in
set_option maxRecDepth 100000 in
theorem c_X4_hasAnswered (l : Launch) (G : GG) (ad : Nat → Nat) (wd : WT) (child : Int32)  : Met l yX4_hasAnswered wsX4_hasAnswered { frames := 1, cells := 0, slots := 0, locals := 22 } (roP G [.ref (ad 0), .int child] (fun H => WAt G ad wd H)) (roQ (some (.int (b2i (w_hasAnswered wd child))))) 0 0 nF := by
  refine Met.ofW (cc := cX4_hasAnswered) (maxL := 3) (ret := (some .boolean)) (by decide) rfl ?_
  intro p e s m args below meth c s₁ Bd hml hv
  obtain ⟨rfl, hK, hB⟩ := hv
  have hx := Bd.exec
  have hb := Bd.bytes
  have hr := Bd.returns
  have hts := atoms_spec (ws := wsX4_hasAnswered) Bd.pre
  have hown : s.vm.findClass RX4 = some m.cls := findClass_of_methodNamed Bd.named
  have hlocks := Bd.notSynchronized
  have hC : CallFix p m c cX4_hasAnswered 3 s _ wsX4_hasAnswered RX4 := ⟨hx, hb, hml, hown, hts⟩
  have hl := lv_entry ([.ref (ad 0), .int child]) (n := 3) (Nat.le_of_ble_eq_true rfl)
  rw [lg_entry_eq]
  generalize (lg_sl ([.ref (ad 0), .int child]) ++ List.replicate (3 - (lg_sl ([.ref (ad 0), .int child])).length) Slot.unset).toArray = ls at hl ⊢
  have hl : lv_has ls 3 [(0, .ref (ad 0)), (1, .int child)] := hl
  have hW := hB
  obtain ⟨f_o, f_ch, f_as, f_an, f_tp, ⟨qf, f_q, hqf⟩, f_lw, hlc⟩ := hB
  refine lv_iconst (v := 0) hx hb dX4_hasAnswered_0 (by decide) ?_
  refine lv_istore_n (lv' := [(2, .int 0), (0, .ref (ad 0)), (1, .int child)]) hx hb dX4_hasAnswered_1 rfl hl (by decide) rfl (fun ls hl => ?_)
  refine loop_at (nL := 3) (α := Nat) (fun a9 => [(0, .ref (ad 0)), (1, .int child), (2, .int (nI a9))]) (fun a9 => a9 ≤ (wAn wd).1 ∧ w_answGo wd child (((wAn wd).1) - a9) a9  = w_answGo wd child ((wAn wd).1) 0 ) (fun a9 => (wAn wd).1 - a9) 0 ⟨(by first | exact Nat.zero_le _ | decide | omega), rfl⟩ (lv_sub hl [1, 2, 0] rfl) (fun a9 hI9 ih_k ls hl => ?_)
  obtain ⟨k, rfl⟩ : ∃ z, z = a9 := ⟨_, rfl⟩
  obtain ⟨hk_k, hV⟩ : k ≤ (wAn wd).1 ∧ w_answGo wd child (((wAn wd).1) - k) k  = w_answGo wd child ((wAn wd).1) 0  := hI9
  have hl : lv_has ls 3 [(0, .ref (ad 0)), (1, .int child), (2, .int (nI k))] := hl
  refine lv_iload_n hx hb dX4_hasAnswered_2 rfl (lv_at hl 2 rfl) ?_
  refine lv_aload_n hx hb dX4_hasAnswered_3 rfl (lv_at hl 0 rfl) ?_
  refine r_get (C := RX4) (T := TX4) (N := 6) hx hb hts i_X4_hasAnswered_X4 hown hK f_o rfl 2 (by decide) k_X4_hasAnswered_fieldLink_23 rfl rfl dX4_hasAnswered_4 ?_
  refine r_get (C := RX2) (T := TX2) (N := 4) hx hb hts i_X4_hasAnswered_X2 hown hK f_an.1 rfl 3 (by decide) k_X4_hasAnswered_fieldLink_63 rfl rfl dX4_hasAnswered_7 ?_
  refine lv_icmp_ge (tgt := 34) hx hb dX4_hasAnswered_10 (by decide) (fun h_1 => ?_) (fun h_1 => ?_)
  · have hN_k : k = (wAn wd).1 := ge_ex (N := (wAn wd).1) rfl h_1 hk_k (by have := f_an.2.2.1; omega)
    subst hN_k
    rw [Nat.sub_self] at hV
    refine lv_iconst (v := 0) hx hb dX4_hasAnswered_34 (by decide) ?_
    exact ro_zret hx hb hr hlocks dX4_hasAnswered_35 (by (try unfold w_hasAnswered); rw [← hV, w_answGo_0]; first | done | rfl)
  · have hlt_k : k < (wAn wd).1 := ge_in (N := (wAn wd).1) rfl h_1 hk_k (by have := f_an.2.2.1; omega)
    obtain ⟨n9, hn9⟩ : ∃ n9, ((wAn wd).1) - k = n9 + 1 := ⟨((wAn wd).1) - k - 1, by omega⟩
    rw [hn9] at hV
    refine lv_aload_n hx hb dX4_hasAnswered_13 rfl (lv_at hl 0 rfl) ?_
    refine r_get (C := RX4) (T := TX4) (N := 6) hx hb hts i_X4_hasAnswered_X4 hown hK f_o rfl 2 (by decide) k_X4_hasAnswered_fieldLink_23 rfl rfl dX4_hasAnswered_14 ?_
    refine lv_iload_n hx hb dX4_hasAnswered_17 rfl (lv_at hl 2 rfl) ?_
    refine lv_iconst (v := 0) hx hb dX4_hasAnswered_18 (by decide) ?_
    refine ro_call (va_runV (As := [.int (nI k), .int 0]) (rest := []) hC (c_X2_at l G (ad 5) (ad 6) 40 5 (wAn wd) (nI k) 0) (cwV 2 hts gX4_hasAnswered_X2_at rfl rfl rfl kd_X2_at ⟨Nat.le_of_ble_eq_true rfl, Nat.le_of_ble_eq_true rfl⟩) (ro_preV hK f_an.1 rfl f_an) rfl rfl hl.1 rfl (lv_room (Nat.le_of_ble_eq_true rfl)) dX4_hasAnswered_19 ⟨Nat.zero_le _, Nat.zero_le _⟩) ?_
    refine lv_iload_n hx hb dX4_hasAnswered_22 rfl (lv_at hl 1 rfl) ?_
    refine lv_icmp_ne (tgt := 28) hx hb dX4_hasAnswered_23 (by decide) (fun h_2 => ?_) (fun h_2 => ?_)
    · refine lv_iinc (v := (nI k) + 1) (lv' := [(2, .int ((nI k) + 1)), (0, .ref (ad 0)), (1, .int child)]) hx hb dX4_hasAnswered_28 hl (k := 2) rfl rfl (by decide) rfl (fun ls hl => ?_)
      refine lv_goto (tgt := 2) hx hb dX4_hasAnswered_31 (by decide) ?_
      have hE : w_answGo wd child n9 (k + 1)  = w_answGo wd child ((wAn wd).1) 0  := (by rw [← hV, w_answGo_s]; (repeat rw [if_neg h_2]); first | done | rfl)
      refine ih_k (k + 1) ⟨(show k + 1 ≤ (wAn wd).1 by omega), (by show w_answGo wd child (((wAn wd).1) - (k + 1)) (k + 1)  = _; rw [show ((wAn wd).1) - (k + 1) = n9 by omega]; exact hE)⟩ (show ((wAn wd).1) - (k + 1) < ((wAn wd).1) - k by omega) ls ?_
      show lv_has ls 3 [(0, .ref (ad 0)), (1, .int child), (2, .int (nI (k + 1)))]
      rw [nI_succ]
      exact lv_sub hl [1, 2, 0] rfl
    · refine lv_iconst (v := 1) hx hb dX4_hasAnswered_26 (by decide) ?_
      exact ro_zret hx hb hr hlocks dX4_hasAnswered_27 (by (try unfold w_hasAnswered); rw [← hV, w_answGo_s]; (repeat rw [if_neg h_1]); (repeat rw [if_pos h_2]); first | done | rfl)

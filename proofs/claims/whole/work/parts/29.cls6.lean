theorem nI_back {x : Int32} (h : ¬ x < 0) : nI x.toNatClampNeg = x := by
  apply Int32.toInt_inj.mp
  have h0 : (0 : Int) ≤ x.toInt := by
    have := Int32.not_lt.mp h
    simpa using Int32.le_iff_toInt_le.mp this
  have h1 : x.toInt < 2 ^ 31 := Int32.toInt_lt x
  show (Int32.ofNat x.toInt.toNat).toInt = x.toInt
  rw [Int32.toInt_ofNat_of_lt (by omega)]
  omega
theorem clamp_le {x : Int32} {n : Nat} (h : x ≤ nI n) (hn : n < 2 ^ 31) : x.toNatClampNeg ≤ n := by
  have h1 : x.toInt ≤ (nI n).toInt := Int32.le_iff_toInt_le.mp h
  have h2 : (nI n).toInt = n := Int32.toInt_ofNat_of_lt hn
  show x.toInt.toNat ≤ n
  omega
theorem not_lt1 {x : Int32} (h : ¬ x < 1) : ¬ x < 0 := fun q => by
  have h1 : x.toInt < 0 := by simpa using Int32.lt_iff_toInt_lt.mp q
  have h2 : (1 : Int) ≤ x.toInt := by simpa using Int32.le_iff_toInt_le.mp (Int32.not_lt.mp h)
  omega
theorem c3_X3_append (l : Launch) (G : GG) (t0 t1 : Nat) (wv : Int64) (nn : Int32) (x : TpT) (htt : t0 ≠ t1) (h1 : ¬ nn < 1) (h8 : nn ≤ 8) (b9 : Bool) (sz9 : Nat) (bt9 : Nat → Int32) (hy9 : q_append wv nn.toNatClampNeg x.1 x.2.2 = (b9, sz9, bt9)) : Met l yX3_append wsX3_append { frames := 0, cells := 0, slots := 0, locals := 0 } (roP G [.ref t0, .long wv, .int nn] (fun H => TpAt G t0 t1 x H)) (wrQ (some (.int (b2i b9))) (fun H => TpAt G t0 t1 (sz9, x.2.1, bt9) H) (fun q => q = t0 ∨ q = t1)) 0 0 (fun q => q = t0 ∨ q = t1) := by
  have e9 := nI_back (not_lt1 h1)
  have h9 := c2_X3_append l G t0 t1 x.2.1 wv nn.toNatClampNeg x.1 x.2.2 htt (clamp_le (n := 8) h8 (by decide)) b9 sz9 bt9 hy9
  rw [e9] at h9
  exact h9
theorem lc_lt8 {n : Nat} (h : nI n < 8) (h2 : n ≤ 8) : n < 8 := by
  rcases Nat.lt_or_ge n 8 with q | q
  · exact q
  · exact absurd h (Int32.not_lt.mpr (show (nI 8 : Int32) ≤ nI n from nI_le q (by omega)))
abbrev lSet3 (x : LawT) (n k v : Int32) : LawT := (n, k, v, x.2.2.2)
theorem LwAt.put {G : GG} {A : Nat → Nat} {x : LawT} {n k v : Int32} {H H1 : Heap} (h : LwAt G A x H) (hN : lwN A) (hn : oA G (A 0) 1 [.int n, .int k, .int v, .int (lSlip x), .ref (A 1), .ref (A 2), .ref (A 4), .int (nI (lSc x))] H1) (hq : ∀ q : Nat, q ≠ A 0 → H1[q]? = H[q]?) : LwAt G A (lSet3 x n k v) H1 :=
  ⟨hn, h.2.1.kept (hq _ (hN 1 0 (by decide) (by decide) (by decide))), h.2.2.1.kept (hq _ (hN 2 0 (by decide) (by decide) (by decide))) (hq _ (hN 3 0 (by decide) (by decide) (by decide))), h.2.2.2.1.kept (hq _ (hN 4 0 (by decide) (by decide) (by decide))), h.2.2.2.2⟩
theorem WAt.setTL {G : GG} {ad : Nat → Nat} {w : WT} {y : TpT} {z : LawT} {i : Nat} {H H1 : Heap} (h : WAt G ad w H) (hN : wN ad) (hi : i < 8) (hy : TpAt G (ad 7) (ad 8) y H1) (hz : LwAt G (fun j => ad (10 + 5 * i + j)) z H1) (hq : ∀ q : Nat, ¬ (q = ad 7 ∨ q = ad 8) → ¬ lwA (fun j => ad (10 + 5 * i + j)) q → H1[q]? = H[q]?) : WAt G ad (wSetLw (wSetTp w y) i z) H1 := by
  have k : ∀ j, j < 50 → j ≠ 7 → j ≠ 8 → (j < 10 + 5 * i ∨ 10 + 5 * i + 5 ≤ j) → H1[ad j]? = H[ad j]? := fun j hj a b c => hq _ (fun e => e.elim (hN j 7 hj (by decide) a) (hN j 8 hj (by decide) b)) (fun ⟨t, ht, e⟩ => hN j _ hj (by omega) (by omega) e)
  obtain ⟨h1, h2, h3, h4, h5, ⟨q, h6, h6b⟩, h7, h8⟩ := h
  refine ⟨h1.kept (k 0 (by decide) (by decide) (by decide) (by omega)), h2.kept (k 1 (by decide) (by decide) (by decide) (by omega)) (k 2 (by decide) (by decide) (by decide) (by omega)), h3.kept (k 3 (by decide) (by decide) (by decide) (by omega)) (k 4 (by decide) (by decide) (by decide) (by omega)), h4.kept (k 5 (by decide) (by decide) (by decide) (by omega)) (k 6 (by decide) (by decide) (by decide) (by omega)), hy, ⟨q, h6.kept (k 9 (by decide) (by decide) (by decide) (by omega)), h6b⟩, fun j hj => ?_, h8⟩
  show LwAt G _ (if j = i then z else wLw w j) H1
  by_cases e : j = i
  · subst e
    rw [if_pos rfl]
    exact hz
  · rw [if_neg e]
    exact (h7 j hj).kept (fun t ht => k (10 + 5 * j + t) (by omega) (by omega) (by omega) (by omega))
abbrev lwR (wd : WT) (pl : Nat) (x : LawT) : WT := wSetLw (wSetTp wd ((wTp wd).1, pl, (wTp wd).2.2)) (wLc wd) x
abbrev lwZ (wd : WT) (pl : Nat) (x : LawT) : WT := wSetTp (lwR wd pl x) (0, (wTp (lwR wd pl x)).2.1, (wTp (lwR wd pl x)).2.2)
abbrev lw1 (wd : WT) (pl : Nat) (x : LawT) : WT := wSetLw (lwZ wd pl x) (wLc wd) (lSet3 (wLw (lwZ wd pl x) (wLc wd)) (nI (wLc (lwZ wd pl x))) (lKind (wLw (lwZ wd pl x) (wLc wd))) (lV (wLw (lwZ wd pl x) (wLc wd))))
abbrev lw2 (wd : WT) (pl : Nat) (x : LawT) (kind : Int32) : WT := wSetLw (lw1 wd pl x) (wLc wd) (lSet3 (wLw (lw1 wd pl x) (wLc wd)) (lNum (wLw (lw1 wd pl x) (wLc wd))) kind (lV (wLw (lw1 wd pl x) (wLc wd))))
abbrev lw3 (wd : WT) (pl : Nat) (x : LawT) (kind vv : Int32) : WT := wSetLw (lw2 wd pl x kind) (wLc wd) (lSet3 (wLw (lw2 wd pl x kind) (wLc wd)) (lNum (wLw (lw2 wd pl x kind) (wLc wd))) (lKind (wLw (lw2 wd pl x kind) (wLc wd))) vv)
abbrev lw4 (wd : WT) (pl : Nat) (x : LawT) (kind vv : Int32) : WT := wSetLc (lw3 wd pl x kind vv) (wLc wd + 1)
theorem i_X5_feed_X5 : ∀ w ∈ wsX50, w ∈ wsX5_feed := fun _ h => List.mem_cons_of_mem _ (List.mem_append_left _ (List.mem_append_left _ (List.mem_append_right _ h)))
theorem k_X5_feed_fieldLink_14 : Cond.fieldLink RX5 14 "SameWater" "now" "LSameWater$World;" ∈ wsX5_feed := by decide +kernel
theorem i_X5_feed_X4 : ∀ w ∈ wsX40, w ∈ wsX5_feed := fun _ h => List.mem_cons_of_mem _ (List.mem_append_left _ (List.mem_append_right _ h))
theorem k_X5_feed_fieldLink_79 : Cond.fieldLink RX5 79 "SameWater$World" "tape" "LSameWater$Tape;" ∈ wsX5_feed := by decide +kernel
theorem i_X5_feed_X3 : ∀ w ∈ wsX30, w ∈ wsX5_feed := fun _ h => List.mem_cons_of_mem _ (List.mem_append_right _ h)
theorem k_X5_feed_fieldLink_89 : Cond.fieldLink RX5 89 "SameWater$Tape" "size" "I" ∈ wsX5_feed := by decide +kernel
theorem kd_X3_append : yX3_append.cls = RX3 ∧ yX3_append.cls ≠ "java/lang/invoke/MethodHandle" ∧ yX3_append.cls ≠ "java/lang/invoke/VarHandle" ∧ (parseMethodDescriptor yX3_append.desc).map (fun d => d.parameters.length) = some 2 := by decide +kernel
def s_feed (wd : WT) (wv : Int64) (nn : Int32) : Int32 × WT := if nn < 1 then ((-2), wd) else if nn ≤ 8 then (match q_append wv nn.toNatClampNeg (wTp wd).1 (wTp wd).2.2 with | (b_0, z_0, f_0) => (if b_0 = true then nI (wTp (wSetTp wd (z_0, (wTp wd).2.1, f_0))).1 else (-4), (wSetTp wd (z_0, (wTp wd).2.1, f_0)))) else ((-2), wd)
set_option maxHeartbeats 4000000 in
set_option maxRecDepth 100000 in
theorem c_X5_feed (l : Launch) (G : GG) (AD ad td : Nat → Nat) (wd wt : WT) (tk : Bool) (rn : Int32) (bo : Nat → Int32) (wv : Int64) (nn : Int32) (hN : cN AD ad td) : Met l yX5_feed wsX5_feed { frames := 1, cells := 0, slots := 0, locals := 24 } (roP G [.ref (AD 0), .long wv, .int nn] (fun H => CAt G AD ad td wd wt tk rn bo H)) (wrQ (some (.int ((s_feed wd wv nn).1))) (fun H => CAt G AD ad td ((s_feed wd wv nn).2) wt tk rn bo H) (cA AD ad td)) 0 0 (cA AD ad td) := by
  refine Met.ofW (cc := cX5_feed) (maxL := 4) (ret := (some .int)) (by decide) rfl ?_
  intro p e s m args below meth c s₁ Bd hml hv
  obtain ⟨rfl, hK, hB⟩ := hv
  have hx := Bd.exec
  have hb := Bd.bytes
  have hr := Bd.returns
  have hts := atoms_spec (ws := wsX5_feed) Bd.pre
  have hown : s.vm.findClass RX5 = some m.cls := findClass_of_methodNamed Bd.named
  have hlocks := Bd.notSynchronized
  have hC : CallFix p m c cX5_feed 4 s _ wsX5_feed RX5 := ⟨hx, hb, hml, hown, hts⟩
  have hl := lv_entry ([.ref (AD 0), .long wv, .int nn]) (n := 4) (Nat.le_of_ble_eq_true rfl)
  rw [lg_entry_eq]
  generalize (lg_sl ([.ref (AD 0), .long wv, .int nn]) ++ List.replicate (4 - (lg_sl ([.ref (AD 0), .long wv, .int nn])).length) Slot.unset).toArray = ls at hl ⊢
  have hl : lv_has ls 4 [(0, .ref (AD 0)), (1, .long wv), (3, .int nn)] := hl
  have hS : wS (cA AD ad td) s.heap s.heap [] := wS.rf
  have f_s := hB
  have hZ := trivial
  refine lv_iload_n hx hb dX5_feed_0 rfl (lv_at hl 2 rfl) ?_
  refine lv_iconst (v := 1) hx hb dX5_feed_1 (by decide) ?_
  refine lv_icmp_lt (tgt := 11) hx hb dX5_feed_2 (by decide) (fun h_1 => ?_) (fun h_1 => ?_)
  · refine lv_bipush (v := (-2)) hx hb dX5_feed_11 (by decide +kernel) ?_
    have hE9 : s_feed wd wv nn = ((-2), wd) := (by (try unfold s_feed); (repeat rw [if_pos h_1]); first | done | rfl)
    exact wr_iret hx hb hr hlocks dX5_feed_13 hS (by rw [hE9]; exact f_s) (by rw [hE9]; first | done | rfl)
  · refine lv_iload_n hx hb dX5_feed_5 rfl (lv_at hl 2 rfl) ?_
    refine lv_bipush (v := 8) hx hb dX5_feed_6 (by decide +kernel) ?_
    refine lv_icmp_le (tgt := 14) hx hb dX5_feed_8 (by decide) (fun h_2 => ?_) (fun h_2 => ?_)
    · refine lv_aload_n hx hb dX5_feed_14 rfl (lv_at hl 0 rfl) ?_
      refine r_get (C := RX5) (T := TX5) (N := 4) hx hb hts i_X5_feed_X5 hown hK f_s.1 rfl 0 (by decide) k_X5_feed_fieldLink_14 rfl rfl dX5_feed_15 ?_
      refine r_get (C := RX4) (T := TX4) (N := 6) hx hb hts i_X5_feed_X4 hown hK f_s.2.1.1 rfl 3 (by decide) k_X5_feed_fieldLink_79 rfl rfl dX5_feed_18 ?_
      refine lv_lload_n hx hb dX5_feed_21 rfl (lv_at hl 1 rfl) ?_
      refine lv_iload_n hx hb dX5_feed_22 rfl (lv_at hl 2 rfl) ?_
      obtain ⟨⟨b_0, z_0, f_0⟩, hy_0⟩ : ∃ z9, q_append wv nn.toNatClampNeg (wTp wd).1 (wTp wd).2.2 = z9 := ⟨_, rfl⟩
      refine wr_call (va_runV (As := [.long wv, .int nn]) (rest := []) hC (c3_X3_append l G (ad 7) (ad 8) wv nn (wTp wd) (hN.1 7 8 (by decide) (by decide) (by decide)) h_1 h_2 b_0 z_0 f_0 hy_0) (cwV 2 hts gX5_feed_X3_append rfl rfl rfl kd_X3_append ⟨Nat.le_of_ble_eq_true rfl, Nat.le_of_ble_eq_true rfl⟩) (ro_preV hK f_s.2.1.2.2.2.2.1.1 rfl f_s.2.1.2.2.2.2.1) rfl rfl hl.1 rfl (lv_room (Nat.le_of_ble_eq_true rfl)) dX5_feed_23 ⟨Nat.zero_le _, Nat.zero_le _⟩) hS (fun q h => h.elim (fun e => e ▸ (Or.inr (Or.inl (wA.in ad 7 (by decide))))) (fun e => e ▸ (Or.inr (Or.inl (wA.in ad 8 (by decide)))))) (fun H locs f_n hq hS => ?_)
      have f_s := (CAt.setNow f_s hN (f_s.2.1.setTp hN.1 f_n hq) (fun q h => hq q (fun e => h (e.elim (fun e => e ▸ wA.in ad 7 (by decide)) (fun e => e ▸ wA.in ad 8 (by decide))))) : CAt G AD ad td (wSetTp wd (z_0, (wTp wd).2.1, f_0)) wt tk rn bo H)
      refine join_wr (nL := 4) 44 [(0, .ref (AD 0)), (1, .long wv), (3, .int nn)] [.int (if b_0 = true then nI (wTp (wSetTp wd (z_0, (wTp wd).2.1, f_0))).1 else (-4))] (fun H locs => (CAt G AD ad td (wSetTp wd (z_0, (wTp wd).2.1, f_0)) wt tk rn bo H) ∧ wS (cA AD ad td) s.heap H locs ∧ True) (fun H locs hI ls hl => ?_) (fun J_3 => ?_)
      · obtain ⟨f_s, hS, hZ⟩ := hI
        have hE9 : s_feed wd wv nn = (if b_0 = true then nI (wTp (wSetTp wd (z_0, (wTp wd).2.1, f_0))).1 else (-4), (wSetTp wd (z_0, (wTp wd).2.1, f_0))) := (by (try unfold s_feed); (repeat rw [if_neg h_1]); (repeat rw [if_pos h_2]); (try rw [hy_0]); (try dsimp only); first | done | rfl)
        exact wr_iret hx hb hr hlocks dX5_feed_44 hS (by rw [hE9]; exact f_s) (by rw [hE9]; first | done | rfl)
      · refine bz_eq (tgt := 42) hx hb dX5_feed_26 (by decide) (fun h_4 => ?_) (fun h_4 => ?_)
        · refine lv_bipush (v := (-4)) hx hb dX5_feed_42 (by decide +kernel) ?_
          have hJ := J_3; (repeat rw [if_neg h_4] at hJ)
          first | exact hJ _ _ ⟨f_s, hS, hZ⟩ ls (lv_sub hl [0, 1, 2] rfl) | ((repeat rw [if_neg h_4] at hl); (repeat rw [if_neg h_4]); exact hJ _ _ ⟨f_s, hS, hZ⟩ ls (lv_sub hl [0, 1, 2] rfl))
        · refine lv_aload_n hx hb dX5_feed_29 rfl (lv_at hl 0 rfl) ?_
          refine r_get (C := RX5) (T := TX5) (N := 4) hx hb hts i_X5_feed_X5 hown hK f_s.1 rfl 0 (by decide) k_X5_feed_fieldLink_14 rfl rfl dX5_feed_30 ?_
          refine r_get (C := RX4) (T := TX4) (N := 6) hx hb hts i_X5_feed_X4 hown hK f_s.2.1.1 rfl 3 (by decide) k_X5_feed_fieldLink_79 rfl rfl dX5_feed_33 ?_
          refine r_get (C := RX3) (T := TX3) (N := 3) hx hb hts i_X5_feed_X3 hown hK f_s.2.1.2.2.2.2.1.1 rfl 1 (by decide) k_X5_feed_fieldLink_89 rfl rfl dX5_feed_36 ?_
          refine lv_goto (tgt := 44) hx hb dX5_feed_39 (by decide) ?_
          have hJ := J_3; (repeat rw [if_pos h_4] at hJ)
          first | exact hJ _ _ ⟨f_s, hS, hZ⟩ ls (lv_sub hl [0, 1, 2] rfl) | ((repeat rw [if_pos h_4] at hl); (repeat rw [if_pos h_4]); exact hJ _ _ ⟨f_s, hS, hZ⟩ ls (lv_sub hl [0, 1, 2] rfl))
    · refine lv_bipush (v := (-2)) hx hb dX5_feed_11 (by decide +kernel) ?_
      have hE9 : s_feed wd wv nn = ((-2), wd) := (by (try unfold s_feed); (repeat rw [if_neg h_1]); (repeat rw [if_neg h_2]); first | done | rfl)
      exact wr_iret hx hb hr hlocks dX5_feed_13 hS (by rw [hE9]; exact f_s) (by rw [hE9]; first | done | rfl)
theorem c2_X5_feed (l : Launch) (G : GG) (AD ad td : Nat → Nat) (wd wt : WT) (tk : Bool) (rn : Int32) (bo : Nat → Int32) (wv : Int64) (nn : Int32) (hN : cN AD ad td) (r9 : Int32) (wd9 : WT) (hy9 : s_feed wd wv nn = (r9, wd9)) : Met l yX5_feed wsX5_feed { frames := 1, cells := 0, slots := 0, locals := 24 } (roP G [.ref (AD 0), .long wv, .int nn] (fun H => CAt G AD ad td wd wt tk rn bo H)) (wrQ (some (.int r9)) (fun H => CAt G AD ad td wd9 wt tk rn bo H) (cA AD ad td)) 0 0 (cA AD ad td) := by
  have h9 := c_X5_feed l G AD ad td wd wt tk rn bo wv nn hN
  rw [hy9] at h9
  exact h9
theorem i_X5_law_X5 : ∀ w ∈ wsX50, w ∈ wsX5_law := fun _ h => List.mem_cons_of_mem _ (List.mem_append_left _ (List.mem_append_left _ (List.mem_append_left _ (List.mem_append_left _ (List.mem_append_right _ h)))))
theorem k_X5_law_fieldLink_14 : Cond.fieldLink RX5 14 "SameWater" "now" "LSameWater$World;" ∈ wsX5_law := by decide +kernel
theorem i_X5_law_X4 : ∀ w ∈ wsX40, w ∈ wsX5_law := fun _ h => List.mem_cons_of_mem _ (List.mem_append_left _ (List.mem_append_left _ (List.mem_append_left _ (List.mem_append_right _ h))))
theorem k_X5_law_fieldLink_93 : Cond.fieldLink RX5 93 "SameWater$World" "lawCount" "I" ∈ wsX5_law := by decide +kernel
theorem k_X5_law_fieldLink_96 : Cond.fieldLink RX5 96 "SameWater$World" "laws" "[LSameWater$Law;" ∈ wsX5_law := by decide +kernel
theorem k_X5_law_fieldLink_79 : Cond.fieldLink RX5 79 "SameWater$World" "tape" "LSameWater$Tape;" ∈ wsX5_law := by decide +kernel
theorem i_X5_law_X3 : ∀ w ∈ wsX30, w ∈ wsX5_law := fun _ h => List.mem_cons_of_mem _ (List.mem_append_left _ (List.mem_append_left _ (List.mem_append_right _ h)))
theorem k_X5_law_fieldLink_89 : Cond.fieldLink RX5 89 "SameWater$Tape" "size" "I" ∈ wsX5_law := by decide +kernel
theorem i_X5_law_X1 : ∀ w ∈ wsX10, w ∈ wsX5_law := fun _ h => List.mem_cons_of_mem _ (List.mem_append_left _ (List.mem_append_right _ h))
theorem k_X5_law_fieldLink_107 : Cond.fieldLink RX5 107 "SameWater$Law" "number" "I" ∈ wsX5_law := by decide +kernel
theorem k_X5_law_fieldLink_112 : Cond.fieldLink RX5 112 "SameWater$Law" "kind" "I" ∈ wsX5_law := by decide +kernel
theorem k_X5_law_fieldLink_115 : Cond.fieldLink RX5 115 "SameWater$Law" "v" "I" ∈ wsX5_law := by decide +kernel
theorem k_X5_law_fieldLink_104 : Cond.fieldLink RX5 104 "SameWater$Tape" "place" "I" ∈ wsX5_law := by decide +kernel
theorem kd_X5_isKind : yX5_isKind.cls ≠ "java/lang/invoke/MethodHandle" ∧ yX5_isKind.cls ≠ "java/lang/invoke/VarHandle" ∧ (parseMethodDescriptor yX5_isKind.desc).map (fun d => d.parameters.length) = some 1 := by decide +kernel
theorem kd_X3_readInto : yX3_readInto.cls = RX3 ∧ yX3_readInto.cls ≠ "java/lang/invoke/MethodHandle" ∧ yX3_readInto.cls ≠ "java/lang/invoke/VarHandle" ∧ (parseMethodDescriptor yX3_readInto.desc).map (fun d => d.parameters.length) = some 1 := by decide +kernel
def s_law (wd : WT) (kind : Int32) (vv : Int32) : Int32 × WT := if (f_isKind kind) = true then if vv < 0 then ((-2), wd) else if vv ≤ 9 then if (nI (wLc wd)) < 8 then (match q_readInto (wTp wd).1 (wTp wd).2.2 (wTp wd).2.1 (wLw wd (wLc wd)) with | (b_0, pl_0, x_0) => if b_0 = true then (lNum (wLw (lw4 wd pl_0 x_0 kind vv) (wLc wd)), (lw4 wd pl_0 x_0 kind vv)) else ((-10) - (nI (wTp (lwZ wd pl_0 x_0)).2.1), (lwZ wd pl_0 x_0))) else ((-4), wd) else ((-2), wd) else ((-1), wd)
set_option maxHeartbeats 4000000 in
set_option maxRecDepth 100000 in
theorem c_X5_law (l : Launch) (G : GG) (Z : AM) (AD ad td : Nat → Nat) (wd wt : WT) (tk : Bool) (rn : Int32) (bo : Nat → Int32) (kind : Int32) (vv : Int32) (hN : cN AD ad td) (hAZ : ∀ q : Nat, cA AD ad td q → Z.1 q) : Met l yX5_law wsX5_law { frames := 30, cells := 0, slots := 0, locals := 1047 } (aP G Z [.ref (AD 0), .int kind, .int vv] (fun H => CAt G AD ad td wd wt tk rn bo H)) (wrQ (some (.int ((s_law wd kind vv).1))) (fun H => CAt G AD ad td ((s_law wd kind vv).2) wt tk rn bo H) (cA AD ad td)) 0 0 (cA AD ad td) := by
  refine Met.ofW (cc := cX5_law) (maxL := 5) (ret := (some .int)) (by decide) rfl ?_
  intro p e s m args below meth c s₁ Bd hml hv
  obtain ⟨rfl, hK, hZ, hB⟩ := hv
  have hx := Bd.exec
  have hb := Bd.bytes
  have hr := Bd.returns
  have hts := atoms_spec (ws := wsX5_law) Bd.pre
  have hown : s.vm.findClass RX5 = some m.cls := findClass_of_methodNamed Bd.named
  have hlocks := Bd.notSynchronized
  have hC : CallFix p m c cX5_law 5 s _ wsX5_law RX5 := ⟨hx, hb, hml, hown, hts⟩
  have hl := lv_entry ([.ref (AD 0), .int kind, .int vv]) (n := 5) (Nat.le_of_ble_eq_true rfl)
  rw [lg_entry_eq]
  generalize (lg_sl ([.ref (AD 0), .int kind, .int vv]) ++ List.replicate (5 - (lg_sl ([.ref (AD 0), .int kind, .int vv])).length) Slot.unset).toArray = ls at hl ⊢
  have hl : lv_has ls 5 [(0, .ref (AD 0)), (1, .int kind), (2, .int vv)] := hl
  have hS : wS (cA AD ad td) s.heap s.heap [] := wS.rf
  have f_s := hB
  have hlc0 : wLc wd ≤ 8 := f_s.2.1.2.2.2.2.2.2.2
  refine lv_iload_n hx hb dX5_law_0 rfl (lv_at hl 1 rfl) ?_
  refine ro_call (va_runS (As := [.int kind]) (rest := []) hC (c_X5_isKind l G kind) (va_cwS 1 hts gX5_law_X5_isKind rfl rfl rfl kd_X5_isKind ⟨Nat.le_of_ble_eq_true rfl, Nat.le_of_ble_eq_true rfl⟩) (ro_preS hK trivial) rfl rfl hl.1 rfl (lv_room (Nat.le_of_ble_eq_true rfl)) dX5_law_1 ⟨Nat.zero_le _, Nat.zero_le _⟩) ?_
  refine bz_ne (tgt := 9) hx hb dX5_law_4 (by decide) (fun h_1 => ?_) (fun h_1 => ?_)
  · refine lv_iload_n hx hb dX5_law_9 rfl (lv_at hl 2 rfl) ?_
    refine lv_if_lt (tgt := 19) hx hb dX5_law_10 (by decide) (fun h_2 => ?_) (fun h_2 => ?_)
    · refine lv_bipush (v := (-2)) hx hb dX5_law_19 (by decide +kernel) ?_
      have hE9 : s_law wd kind vv = ((-2), wd) := (by (try unfold s_law); (repeat rw [if_pos h_1]); (repeat rw [if_pos h_2]); first | done | rfl)
      exact wr_iret hx hb hr hlocks dX5_law_21 hS (by rw [hE9]; exact f_s) (by rw [hE9]; first | done | rfl)
    · refine lv_iload_n hx hb dX5_law_13 rfl (lv_at hl 2 rfl) ?_
      refine lv_bipush (v := 9) hx hb dX5_law_14 (by decide +kernel) ?_
      refine lv_icmp_le (tgt := 22) hx hb dX5_law_16 (by decide) (fun h_3 => ?_) (fun h_3 => ?_)
      · refine lv_aload_n hx hb dX5_law_22 rfl (lv_at hl 0 rfl) ?_
        refine r_get (C := RX5) (T := TX5) (N := 4) hx hb hts i_X5_law_X5 hown hK f_s.1 rfl 0 (by decide) k_X5_law_fieldLink_14 rfl rfl dX5_law_23 ?_
        refine r_get (C := RX4) (T := TX4) (N := 6) hx hb hts i_X5_law_X4 hown hK f_s.2.1.1 rfl 5 (by decide) k_X5_law_fieldLink_93 rfl rfl dX5_law_26 ?_
        refine lv_if_lt (tgt := 44) hx hb dX5_law_29 (by decide) (fun h_4 => ?_) (fun h_4 => ?_)
        · exact absurd h_4 (nI_pos (by omega))
        · refine lv_aload_n hx hb dX5_law_32 rfl (lv_at hl 0 rfl) ?_
          refine r_get (C := RX5) (T := TX5) (N := 4) hx hb hts i_X5_law_X5 hown hK f_s.1 rfl 0 (by decide) k_X5_law_fieldLink_14 rfl rfl dX5_law_33 ?_
          refine r_get (C := RX4) (T := TX4) (N := 6) hx hb hts i_X5_law_X4 hown hK f_s.2.1.1 rfl 5 (by decide) k_X5_law_fieldLink_93 rfl rfl dX5_law_36 ?_
          refine lv_bipush (v := 8) hx hb dX5_law_39 (by decide +kernel) ?_
          refine lv_icmp_lt (tgt := 47) hx hb dX5_law_41 (by decide) (fun h_5 => ?_) (fun h_5 => ?_)
          · refine lv_aload_n hx hb dX5_law_47 rfl (lv_at hl 0 rfl) ?_
            refine r_get (C := RX5) (T := TX5) (N := 4) hx hb hts i_X5_law_X5 hown hK f_s.1 rfl 0 (by decide) k_X5_law_fieldLink_14 rfl rfl dX5_law_48 ?_
            refine r_get (C := RX4) (T := TX4) (N := 6) hx hb hts i_X5_law_X4 hown hK f_s.2.1.1 rfl 4 (by decide) k_X5_law_fieldLink_96 rfl rfl dX5_law_51 ?_
            refine lv_aload_n hx hb dX5_law_54 rfl (lv_at hl 0 rfl) ?_
            refine r_get (C := RX5) (T := TX5) (N := 4) hx hb hts i_X5_law_X5 hown hK f_s.1 rfl 0 (by decide) k_X5_law_fieldLink_14 rfl rfl dX5_law_55 ?_
            refine r_get (C := RX4) (T := TX4) (N := 6) hx hb hts i_X5_law_X4 hown hK f_s.2.1.1 rfl 5 (by decide) k_X5_law_fieldLink_93 rfl rfl dX5_law_58 ?_
            have hL8 : (wLc wd) < 8 := lc_lt8 h_5 hlc0
            have hNl : lwN (fun j => ad (10 + 5 * (wLc wd) + j)) := fun i j hi hj hne => hN.1 _ _ (by omega) (by omega) (by omega)
            have hsub : ∀ q : Nat, psA (ad 7) (fun j => ad (10 + 5 * (wLc wd) + j)) q → cA AD ad td q := fun q h => h.elim (fun e => e ▸ (Or.inr (Or.inl (wA.in ad 7 (by decide))))) (fun ⟨j, hj, e⟩ => Or.inr (Or.inl ⟨10 + 5 * (wLc wd) + j, by omega, e⟩))
            obtain ⟨qf, f_q, hqf⟩ := f_s.2.1.2.2.2.2.2.1
            refine r_qald hx hb hK f_q (vp_of (n := 8) rfl (nI_pos (by omega)) (Int32.not_le.mpr h_5) (by decide)) (show qf (nI (wLc wd)).toNatClampNeg = some (ad (10 + 5 * (wLc wd))) by rw [nI_clamp (by omega)]; exact hqf _ hL8) dX5_law_61 ?_
            refine lv_astore_n (lv' := [(3, .ref (ad (10 + 5 * (wLc wd)))), (0, .ref (AD 0)), (1, .int kind), (2, .int vv)]) hx hb dX5_law_62 rfl hl (by decide) rfl (fun ls hl => ?_)
            refine lv_aload_n hx hb dX5_law_63 rfl (lv_at hl 1 rfl) ?_
            refine r_get (C := RX5) (T := TX5) (N := 4) hx hb hts i_X5_law_X5 hown hK f_s.1 rfl 0 (by decide) k_X5_law_fieldLink_14 rfl rfl dX5_law_64 ?_
            refine r_get (C := RX4) (T := TX4) (N := 6) hx hb hts i_X5_law_X4 hown hK f_s.2.1.1 rfl 3 (by decide) k_X5_law_fieldLink_79 rfl rfl dX5_law_67 ?_
            refine lv_aload_n hx hb dX5_law_70 rfl (lv_at hl 0 rfl) ?_
            obtain ⟨⟨b_0, pl_0, x_0⟩, hy_0⟩ : ∃ z9, q_readInto (wTp wd).1 (wTp wd).2.2 (wTp wd).2.1 (wLw wd (wLc wd)) = z9 := ⟨_, rfl⟩
            refine wr_call (va_runV (As := [.ref (ad (10 + 5 * (wLc wd)))]) (rest := []) hC (c2_X3_readInto l G Z (ad 7) (ad 8) (fun j => ad (10 + 5 * (wLc wd) + j)) (wTp wd).1 (wTp wd).2.2 (wTp wd).2.1 (wLw wd (wLc wd)) (hN.1 7 8 (by decide) (by decide) (by decide)) hNl ⟨fun j hj => hN.1 _ _ (by omega) (by decide) (by omega), fun j hj => hN.1 _ _ (by omega) (by decide) (by omega)⟩ (fun q h => hAZ q (hsub q h)) b_0 pl_0 x_0 hy_0) (cwV 1 hts gX5_law_X3_readInto rfl rfl rfl kd_X3_readInto ⟨Nat.le_of_ble_eq_true rfl, Nat.le_of_ble_eq_true rfl⟩) (a_preV hK hZ f_s.2.1.2.2.2.2.1.1 rfl (⟨f_s.2.1.2.2.2.2.1, f_s.2.1.2.2.2.2.2.2.1 _ hL8⟩ : PsAt G (ad 7) (ad 8) (fun j => ad (10 + 5 * (wLc wd) + j)) (wTp wd).1 (wTp wd).2.2 (wTp wd).2.1 (wLw wd (wLc wd)) _)) rfl rfl hl.1 rfl (lv_room (Nat.le_of_ble_eq_true rfl)) dX5_law_71 ⟨Nat.zero_le _, Nat.zero_le _⟩) hS hsub (fun H locs f_n hq hS => ?_)
            have hZ := hZ.kept (fun a9 h9 => hq a9 (fun z9 => h9 (hAZ a9 (hsub a9 z9))))
            have f_s := (CAt.setNow f_s hN (f_s.2.1.setTL hN.1 hL8 f_n.1 f_n.2 (fun q h1 h2 => hq q (fun e => e.elim (fun e => h1 (Or.inl e)) h2))) (fun q h => hq q (fun e => e.elim (fun e => h (e ▸ wA.in ad 7 (by decide))) (fun ⟨j, hj, e⟩ => h ⟨10 + 5 * (wLc wd) + j, by omega, e⟩))) : CAt G AD ad td (lwR wd pl_0 x_0) wt tk rn bo H)
            refine lv_istore (lv' := [(4, .int (b2i b_0)), (3, .ref (ad (10 + 5 * (wLc wd)))), (0, .ref (AD 0)), (1, .int kind), (2, .int vv)]) hx hb dX5_law_74 hl (by decide) rfl (fun ls hl => ?_)
            refine lv_aload_n hx hb dX5_law_76 rfl (lv_at hl 2 rfl) ?_
            refine r_get (C := RX5) (T := TX5) (N := 4) hx hb hts i_X5_law_X5 hown hK f_s.1 rfl 0 (by decide) k_X5_law_fieldLink_14 rfl rfl dX5_law_77 ?_
            refine r_get (C := RX4) (T := TX4) (N := 6) hx hb hts i_X5_law_X4 hown hK f_s.2.1.1 rfl 3 (by decide) k_X5_law_fieldLink_79 rfl rfl dX5_law_80 ?_
            refine lv_iconst (v := 0) hx hb dX5_law_83 (by decide) ?_
            refine w_put (C := RX3) (T := TX3) (N := 3) hx hb hts i_X5_law_X3 tyX3 tyX3_ok nmX3 hown hK f_s.2.1.2.2.2.2.1.1 hS (Or.inr (Or.inl (wA.in ad 7 (by decide)))) rfl 1 (by decide) k_X5_law_fieldLink_89 rfl rfl rfl rfl (Nat.le_of_ble_eq_true rfl) dX5_law_84 (fun H locs hn hq hS => ?_)
            have hZ := hZ.put (hAZ _ (Or.inr (Or.inl (wA.in ad 7 (by decide))))) hq
            have f_t : TpAt G (ad 7) (ad 8) (0, (wTp (lwR wd pl_0 x_0)).2.1, (wTp (lwR wd pl_0 x_0)).2.2) H := ⟨hn, f_s.2.1.2.2.2.2.1.2.1.kept (hq _ (hN.1 8 7 (by decide) (by decide) (by decide))), Nat.zero_le _, f_s.2.1.2.2.2.2.1.2.2.2⟩
            have f_s := (CAt.setNow f_s hN (f_s.2.1.setTp hN.1 f_t (fun q h => hq q (fun e => h (Or.inl e)))) (fun q h => hq q (fun e => h (e ▸ wA.in ad 7 (by decide)))) : CAt G AD ad td (lwZ wd pl_0 x_0) wt tk rn bo H)
            refine lv_iload hx hb dX5_law_87 (lv_at hl 0 rfl) ?_
            refine bz_ne (tgt := 106) hx hb dX5_law_89 (by decide) (fun h_6 => ?_) (fun h_6 => ?_)
            · refine lv_aload_n hx hb dX5_law_106 rfl (lv_at hl 1 rfl) ?_
              refine lv_aload_n hx hb dX5_law_107 rfl (lv_at hl 2 rfl) ?_
              refine r_get (C := RX5) (T := TX5) (N := 4) hx hb hts i_X5_law_X5 hown hK f_s.1 rfl 0 (by decide) k_X5_law_fieldLink_14 rfl rfl dX5_law_108 ?_
              refine r_get (C := RX4) (T := TX4) (N := 6) hx hb hts i_X5_law_X4 hown hK f_s.2.1.1 rfl 5 (by decide) k_X5_law_fieldLink_93 rfl rfl dX5_law_111 ?_
              refine w_put (C := RX1) (T := TX1) (N := 8) hx hb hts i_X5_law_X1 tyX1 tyX1_ok nmX1 hown hK (f_s.2.1.2.2.2.2.2.2.1 _ hL8).1 hS (Or.inr (Or.inl ⟨10 + 5 * (wLc wd) + 0, by omega, rfl⟩)) rfl 0 (by decide) k_X5_law_fieldLink_107 rfl rfl rfl rfl (Nat.le_of_ble_eq_true rfl) dX5_law_114 (fun H locs hn hq hS => ?_)
              have hZ := hZ.put (hAZ _ (Or.inr (Or.inl ⟨10 + 5 * (wLc wd) + 0, by omega, rfl⟩))) hq
              have f_l : LwAt G (fun j => ad (10 + 5 * (wLc wd) + j)) (lSet3 (wLw (lwZ wd pl_0 x_0) (wLc wd)) (nI (wLc (lwZ wd pl_0 x_0))) (lKind (wLw (lwZ wd pl_0 x_0) (wLc wd))) (lV (wLw (lwZ wd pl_0 x_0) (wLc wd)))) H := LwAt.put (f_s.2.1.2.2.2.2.2.2.1 _ hL8) hNl hn hq
              have f_s := (CAt.setNow f_s hN (f_s.2.1.setLw hN.1 hL8 f_l (fun q h => hq q (fun e => h (e ▸ lwA.in (fun j => ad (10 + 5 * (wLc wd) + j)) 0 (by decide))))) (fun q h => hq q (fun e => h ⟨10 + 5 * (wLc wd) + 0, by omega, e⟩)) : CAt G AD ad td (lw1 wd pl_0 x_0) wt tk rn bo H)
              refine lv_aload_n hx hb dX5_law_117 rfl (lv_at hl 1 rfl) ?_
              refine lv_iload_n hx hb dX5_law_118 rfl (lv_at hl 3 rfl) ?_
              refine w_put (C := RX1) (T := TX1) (N := 8) hx hb hts i_X5_law_X1 tyX1 tyX1_ok nmX1 hown hK (f_s.2.1.2.2.2.2.2.2.1 _ hL8).1 hS (Or.inr (Or.inl ⟨10 + 5 * (wLc wd) + 0, by omega, rfl⟩)) rfl 1 (by decide) k_X5_law_fieldLink_112 rfl rfl rfl rfl (Nat.le_of_ble_eq_true rfl) dX5_law_119 (fun H locs hn hq hS => ?_)
              have hZ := hZ.put (hAZ _ (Or.inr (Or.inl ⟨10 + 5 * (wLc wd) + 0, by omega, rfl⟩))) hq
              have f_l : LwAt G (fun j => ad (10 + 5 * (wLc wd) + j)) (lSet3 (wLw (lw1 wd pl_0 x_0) (wLc wd)) (lNum (wLw (lw1 wd pl_0 x_0) (wLc wd))) kind (lV (wLw (lw1 wd pl_0 x_0) (wLc wd)))) H := LwAt.put (f_s.2.1.2.2.2.2.2.2.1 _ hL8) hNl hn hq
              have f_s := (CAt.setNow f_s hN (f_s.2.1.setLw hN.1 hL8 f_l (fun q h => hq q (fun e => h (e ▸ lwA.in (fun j => ad (10 + 5 * (wLc wd) + j)) 0 (by decide))))) (fun q h => hq q (fun e => h ⟨10 + 5 * (wLc wd) + 0, by omega, e⟩)) : CAt G AD ad td (lw2 wd pl_0 x_0 kind) wt tk rn bo H)
              refine lv_aload_n hx hb dX5_law_122 rfl (lv_at hl 1 rfl) ?_
              refine lv_iload_n hx hb dX5_law_123 rfl (lv_at hl 4 rfl) ?_
              refine w_put (C := RX1) (T := TX1) (N := 8) hx hb hts i_X5_law_X1 tyX1 tyX1_ok nmX1 hown hK (f_s.2.1.2.2.2.2.2.2.1 _ hL8).1 hS (Or.inr (Or.inl ⟨10 + 5 * (wLc wd) + 0, by omega, rfl⟩)) rfl 2 (by decide) k_X5_law_fieldLink_115 rfl rfl rfl rfl (Nat.le_of_ble_eq_true rfl) dX5_law_124 (fun H locs hn hq hS => ?_)
              have hZ := hZ.put (hAZ _ (Or.inr (Or.inl ⟨10 + 5 * (wLc wd) + 0, by omega, rfl⟩))) hq
              have f_l : LwAt G (fun j => ad (10 + 5 * (wLc wd) + j)) (lSet3 (wLw (lw2 wd pl_0 x_0 kind) (wLc wd)) (lNum (wLw (lw2 wd pl_0 x_0 kind) (wLc wd))) (lKind (wLw (lw2 wd pl_0 x_0 kind) (wLc wd))) vv) H := LwAt.put (f_s.2.1.2.2.2.2.2.2.1 _ hL8) hNl hn hq
              have f_s := (CAt.setNow f_s hN (f_s.2.1.setLw hN.1 hL8 f_l (fun q h => hq q (fun e => h (e ▸ lwA.in (fun j => ad (10 + 5 * (wLc wd) + j)) 0 (by decide))))) (fun q h => hq q (fun e => h ⟨10 + 5 * (wLc wd) + 0, by omega, e⟩)) : CAt G AD ad td (lw3 wd pl_0 x_0 kind vv) wt tk rn bo H)
              refine lv_aload_n hx hb dX5_law_127 rfl (lv_at hl 2 rfl) ?_
              refine r_get (C := RX5) (T := TX5) (N := 4) hx hb hts i_X5_law_X5 hown hK f_s.1 rfl 0 (by decide) k_X5_law_fieldLink_14 rfl rfl dX5_law_128 ?_
              refine lv_dup hx hb dX5_law_131 rfl ?_
              refine r_get (C := RX4) (T := TX4) (N := 6) hx hb hts i_X5_law_X4 hown hK f_s.2.1.1 rfl 5 (by decide) k_X5_law_fieldLink_93 rfl rfl dX5_law_132 ?_
              refine lv_iconst (v := 1) hx hb dX5_law_135 (by decide) ?_
              refine lv_iadd hx hb dX5_law_136 ?_
              refine w_put (C := RX4) (T := TX4) (N := 6) hx hb hts i_X5_law_X4 tyX4 tyX4_ok nmX4 hown hK f_s.2.1.1 hS (Or.inr (Or.inl (wA.in ad 0 (by decide)))) rfl 5 (by decide) k_X5_law_fieldLink_93 rfl rfl rfl rfl (Nat.le_of_ble_eq_true rfl) dX5_law_137 (fun H locs hn hq hS => ?_)
              have hZ := hZ.put (hAZ _ (Or.inr (Or.inl (wA.in ad 0 (by decide))))) hq
              have f_s := (CAt.setNow f_s hN (f_s.2.1.setLc hN.1 (show wLc wd + 1 ≤ 8 from hL8) (by rw [nI_succ]; exact hn) hq) (fun q h => hq q (fun e => h (e ▸ wA.in ad 0 (by decide)))) : CAt G AD ad td (lw4 wd pl_0 x_0 kind vv) wt tk rn bo H)
              refine lv_aload_n hx hb dX5_law_140 rfl (lv_at hl 1 rfl) ?_
              refine r_get (C := RX1) (T := TX1) (N := 8) hx hb hts i_X5_law_X1 hown hK (f_s.2.1.2.2.2.2.2.2.1 _ hL8).1 rfl 0 (by decide) k_X5_law_fieldLink_107 rfl rfl dX5_law_141 ?_
              have hE9 : s_law wd kind vv = (lNum (wLw (lw4 wd pl_0 x_0 kind vv) (wLc wd)), (lw4 wd pl_0 x_0 kind vv)) := (by (try unfold s_law); (repeat rw [if_pos h_1]); (repeat rw [if_neg h_2]); (repeat rw [if_pos h_3]); (repeat rw [if_neg h_4]); (repeat rw [if_pos h_5]); (try rw [hy_0]); (try dsimp only); (repeat rw [if_pos h_6]); first | done | rfl)
              exact wr_iret hx hb hr hlocks dX5_law_144 hS (by rw [hE9]; exact f_s) (by rw [hE9]; first | done | rfl)
            · refine lv_bipush (v := (-10)) hx hb dX5_law_92 (by decide +kernel) ?_
              refine lv_aload_n hx hb dX5_law_94 rfl (lv_at hl 2 rfl) ?_
              refine r_get (C := RX5) (T := TX5) (N := 4) hx hb hts i_X5_law_X5 hown hK f_s.1 rfl 0 (by decide) k_X5_law_fieldLink_14 rfl rfl dX5_law_95 ?_
              refine r_get (C := RX4) (T := TX4) (N := 6) hx hb hts i_X5_law_X4 hown hK f_s.2.1.1 rfl 3 (by decide) k_X5_law_fieldLink_79 rfl rfl dX5_law_98 ?_
              refine r_get (C := RX3) (T := TX3) (N := 3) hx hb hts i_X5_law_X3 hown hK f_s.2.1.2.2.2.2.1.1 rfl 2 (by decide) k_X5_law_fieldLink_104 rfl rfl dX5_law_101 ?_
              refine lv_isub hx hb dX5_law_104 ?_
              have hE9 : s_law wd kind vv = ((-10) - (nI (wTp (lwZ wd pl_0 x_0)).2.1), (lwZ wd pl_0 x_0)) := (by (try unfold s_law); (repeat rw [if_pos h_1]); (repeat rw [if_neg h_2]); (repeat rw [if_pos h_3]); (repeat rw [if_neg h_4]); (repeat rw [if_pos h_5]); (try rw [hy_0]); (try dsimp only); (repeat rw [if_neg h_6]); first | done | rfl)
              exact wr_iret hx hb hr hlocks dX5_law_105 hS (by rw [hE9]; exact f_s) (by rw [hE9]; first | done | rfl)
          · refine lv_bipush (v := (-4)) hx hb dX5_law_44 (by decide +kernel) ?_
            have hE9 : s_law wd kind vv = ((-4), wd) := (by (try unfold s_law); (repeat rw [if_pos h_1]); (repeat rw [if_neg h_2]); (repeat rw [if_pos h_3]); (repeat rw [if_neg h_4]); (repeat rw [if_neg h_5]); first | done | rfl)
            exact wr_iret hx hb hr hlocks dX5_law_46 hS (by rw [hE9]; exact f_s) (by rw [hE9]; first | done | rfl)
      · refine lv_bipush (v := (-2)) hx hb dX5_law_19 (by decide +kernel) ?_
        have hE9 : s_law wd kind vv = ((-2), wd) := (by (try unfold s_law); (repeat rw [if_pos h_1]); (repeat rw [if_neg h_2]); (repeat rw [if_neg h_3]); first | done | rfl)
        exact wr_iret hx hb hr hlocks dX5_law_21 hS (by rw [hE9]; exact f_s) (by rw [hE9]; first | done | rfl)
  · refine lv_iconst (v := (-1)) hx hb dX5_law_7 (by decide) ?_
    have hE9 : s_law wd kind vv = ((-1), wd) := (by (try unfold s_law); (repeat rw [if_neg h_1]); first | done | rfl)
    exact wr_iret hx hb hr hlocks dX5_law_8 hS (by rw [hE9]; exact f_s) (by rw [hE9]; first | done | rfl)
theorem c2_X5_law (l : Launch) (G : GG) (Z : AM) (AD ad td : Nat → Nat) (wd wt : WT) (tk : Bool) (rn : Int32) (bo : Nat → Int32) (kind : Int32) (vv : Int32) (hN : cN AD ad td) (hAZ : ∀ q : Nat, cA AD ad td q → Z.1 q) (r9 : Int32) (wd9 : WT) (hy9 : s_law wd kind vv = (r9, wd9)) : Met l yX5_law wsX5_law { frames := 30, cells := 0, slots := 0, locals := 1047 } (aP G Z [.ref (AD 0), .int kind, .int vv] (fun H => CAt G AD ad td wd wt tk rn bo H)) (wrQ (some (.int r9)) (fun H => CAt G AD ad td wd9 wt tk rn bo H) (cA AD ad td)) 0 0 (cA AD ad td) := by
  have h9 := c_X5_law l G Z AD ad td wd wt tk rn bo kind vv hN hAZ
  rw [hy9] at h9
  exact h9

abbrev vwCl : List vw_C := [(RX0, TX0, 2), (RX1, TX1, 8), (RX2, TX2, 4), (RX3, TX3, 3), (RX4, TX4, 6), (RX5, TX5, 4), (RX6, TX6, 18)]
/-! OWN LAYER over W and Met: contracts that keep the heap (roP, roQ), contracts that change some cells (wrQ), facts about one cell (oA, iA, qA) -/
abbrev GG : Type := va_G × (Nat → ClassId)
abbrev gT (G : GG) : List (ClassId × FieldType) := [(G.2 0, .byte), (G.2 1, .int), (G.2 2, .boolean), (G.2 3, .object "SameWater$Law")]
/-- links between nest mates, which hold in every state that comes -/
def nestW : List Cond := [.fieldLinkNest RX0 28 "SameWater" "ABOVE" "[I" "SameWater", .fieldLinkNest RX0 31 "SameWater" "BODIES" "[I" "SameWater", .methodLinkNest RX5 23 yX0_init "SameWater", .methodLinkNest RX0 48 yX5_isKind "SameWater", .methodLinkNest RX1 37 yX5_isStuff "SameWater", .methodLinkNest RX4 159 yX5_lowest "SameWater", .methodLinkNest RX4 28 yX3_init "SameWater", .methodLinkNest RX4 39 yX1_init "SameWater"]
theorem nestW_warm {s U : State} (hW : s.WarmedH U.vm) : ∀ w ∈ nestW, va_Nw w s → va_Nw w U := by
  refine List.forall_mem_cons.mpr ⟨va_Nw.warmF hW, List.forall_mem_cons.mpr ⟨va_Nw.warmF hW, List.forall_mem_cons.mpr ⟨va_Nw.warmM hW, List.forall_mem_cons.mpr ⟨va_Nw.warmM hW, List.forall_mem_cons.mpr ⟨va_Nw.warmM hW, List.forall_mem_cons.mpr ⟨va_Nw.warmM hW, List.forall_mem_cons.mpr ⟨va_Nw.warmM hW, List.forall_mem_cons.mpr ⟨va_Nw.warmM hW, fun _ h => absurd h List.not_mem_nil⟩⟩⟩⟩⟩⟩⟩⟩
theorem nestW_tab : ∀ w ∈ nestW, w.onTables = true := by
  refine List.forall_mem_cons.mpr ⟨rfl, List.forall_mem_cons.mpr ⟨rfl, List.forall_mem_cons.mpr ⟨rfl, List.forall_mem_cons.mpr ⟨rfl, List.forall_mem_cons.mpr ⟨rfl, List.forall_mem_cons.mpr ⟨rfl, List.forall_mem_cons.mpr ⟨rfl, List.forall_mem_cons.mpr ⟨rfl, fun _ h => absurd h List.not_mem_nil⟩⟩⟩⟩⟩⟩⟩⟩
def gK (G : GG) (U : State) : Prop := va_K G.1 vwCl (gT G) U ∧ ∀ w ∈ nestW, va_Nw w U
theorem gK.warm {G : GG} {s U : State} (h : gK G s) (hW : s.WarmedH U.vm) : gK G U := ⟨va_K.moved hW.alike h.1, fun w hw => nestW_warm hW w hw (h.2 w hw)⟩
theorem gK.same {G : GG} {s U : State} (h : gK G s) (hv : s.vm = U.vm) : gK G U := ⟨va_K.moved (hv ▸ Vm.Alike.refl s.vm) h.1, fun w hw => va_Nw.same (nestW_tab w hw) hv (h.2 w hw)⟩
/-- an object of class number ci, its fields -/
def oA (G : GG) (a ci : Nat) (fs : List Value) (H : Heap) : Prop := va_at G.1 vwCl (a, .inr (ci, fs)) H
/-- a row of numbers of kind k (0 byte, 1 int, 2 boolean) -/
def iA (G : GG) (k a n : Nat) (f : Nat → Int32) (H : Heap) : Prop := va_at G.1 vwCl (a, .inl (G.2 k, n, .inl f)) H
/-- a row of references -/
def qA (G : GG) (a n : Nat) (f : Nat → Option Nat) (H : Heap) : Prop := va_at G.1 vwCl (a, .inl (G.2 3, n, .inr (.inr (.inr (.inr f))))) H
theorem oA.kept {G : GG} {a ci : Nat} {fs : List Value} {H H1 : Heap} (h : oA G a ci fs H) (hq : H1[a]? = H[a]?) : oA G a ci fs H1 := va_at.kept (q := (a, .inr (ci, fs))) h hq
theorem iA.kept {G : GG} {k a n : Nat} {f : Nat → Int32} {H H1 : Heap} (h : iA G k a n f H) (hq : H1[a]? = H[a]?) : iA G k a n f H1 := va_at.kept (q := (a, .inl (G.2 k, n, .inl f))) h hq
theorem qA.kept {G : GG} {a n : Nat} {f : Nat → Option Nat} {H H1 : Heap} (h : qA G a n f H) (hq : H1[a]? = H[a]?) : qA G a n f H1 := va_at.kept (q := (a, .inl (G.2 3, n, .inr (.inr (.inr (.inr f)))))) h hq
theorem one_P {D : va_G} {cl : List vw_C} {q : Nat × va_E} {H : Heap} (h : va_at D cl q H) : va_P D cl [q] H := fun k q' hk => by
  match k, hk with
  | 0, hk => cases hk; exact h
  | k + 1, hk => simp at hk
/-- a boolean answer -/
def b2i (b : Bool) : Int32 := if b = true then 1 else 0
theorem b2i_t : b2i true = 1 := rfl
theorem b2i_f : b2i false = 0 := rfl
theorem b2i_nar (b : Bool) : narrow .boolean (.int (b2i b)) = .int (b2i b) := by cases b <;> rfl
theorem b2i_eq0 (b : Bool) : b2i b = 0 ↔ ¬ b = true := by cases b <;> decide
theorem ge_ex {k N : Nat} {x : Int32} (hx : x = nI N) (h : x ≤ nI k) (hk : k ≤ N) (hN : N < 2 ^ 31) : k = N := by
  subst hx
  rcases Nat.lt_or_ge k N with q | q
  · exact absurd h (nI_ge q hN)
  · omega
theorem ge_in {k N : Nat} {x : Int32} (hx : x = nI N) (h : ¬ x ≤ nI k) (hk : k ≤ N) (hN : N < 2 ^ 31) : k < N := by
  subst hx
  rcases Nat.lt_or_ge k N with q | q
  · exact q
  · exact absurd (nI_le q (by omega)) h
theorem gt_ex {k N : Nat} {x : Int32} (hx : x = nI N) (h : x < nI k) (hk : k ≤ N + 1) (hN : N < 2 ^ 30) : k = N + 1 := by
  subst hx
  rcases Nat.lt_or_ge N k with q | q
  · omega
  · exact absurd h (nI_nlt q (by omega))
theorem gt_in {k N : Nat} {x : Int32} (hx : x = nI N) (h : ¬ x < nI k) (hk : k ≤ N + 1) (hN : N < 2 ^ 30) : k < N + 1 := by
  subst hx
  rcases Nat.lt_or_ge N k with q | q
  · exact absurd (nI_lt q (by omega)) h
  · omega
theorem lcmp_ne {x y : Int64} (h : ¬ lg_cmp x y = 0) : ¬ x = y := fun e => h (by subst e; simp [lg_cmp])
theorem max1_ne (x : Int64) : ¬ (if 1 < x then x else 1) = 0 := by
  split
  · rename_i h
    intro e
    rw [e] at h
    exact absurd h (by decide)
  · decide
theorem vp_lt {i : Int32} {n : Nat} (h : vp_in i n) : i.toNatClampNeg < n := Nat.not_le.mp fun q => h (Or.inr q)
theorem vp_of {i : Int32} {n : Nat} {x : Int32} (hx : x = nI n) (h1 : ¬ i < 0) (h2 : ¬ x ≤ i) (hn : n < 2 ^ 31) : vp_in i n := by
  subst hx
  obtain ⟨j, hj, rfl⟩ := nI_of h1
  rcases Nat.lt_or_ge j n with q | q
  · exact vp_in_nI q hn
  · exact absurd (nI_le q hj) h2
theorem b2i_narZ (b : Bool) : vp_nar .boolean (b2i b) = b2i b := by cases b <;> rfl
theorem b2i_fit (b : Bool) : fits .boolean (.int (b2i b)) = true := by cases b <;> rfl
/-- a contract's start: the arguments, the classes, and what holds of the heap -/
def roP (G : GG) (av : List Value) (B : Heap → Prop) : Array Value → State → Prop := fun v U => v = av.toArray ∧ gK G U ∧ B U.heap
/-- its end, where the heap stays -/
def roQ (r : Option Value) : Array Value → State → Outcome → State → Prop := fun _ st o t => o = .returned r ∧ t.heap = st.heap
/-- its end, where cells of A may change -/
def wrQ (r : Option Value) (B : Heap → Prop) (A : Nat → Prop) : Array Value → State → Outcome → State → Prop := fun _ st o t => o = .returned r ∧ B t.heap ∧ t.heap.size = st.heap.size ∧ ∀ q : Nat, ¬ A q → t.heap[q]? = st.heap[q]?
abbrev nF : Addr → Prop := fun _ => False
/-- since H0 no cell outside A has changed -/
def wS (A : Nat → Prop) (H0 H : Heap) (locs : List Loc) : Prop := H.size = H0.size ∧ (∀ q : Nat, ¬ A q → H[q]? = H0[q]?) ∧ ∀ l ∈ locs, A l.base
theorem wS.rf {A : Nat → Prop} {H0 : Heap} : wS A H0 H0 [] := ⟨rfl, fun _ _ => rfl, fun _ h => by cases h⟩
theorem wS.put {A : Nat → Prop} {H0 H H1 : Heap} {locs : List Loc} {a k : Nat} (h : wS A H0 H locs) (z : H1.size = H.size) (oq : ∀ q : Nat, q ≠ a → H1[q]? = H[q]?) (ha : A a) : wS A H0 H1 (locs ++ [⟨a, k⟩]) := by
  refine ⟨z.trans h.1, fun q hq => ?_, fun l hl => ?_⟩
  · rw [oq q (fun e => hq (e ▸ ha))]; exact h.2.1 q hq
  · rcases List.mem_append.mp hl with g | g
    · exact h.2.2 l g
    · rw [List.mem_singleton.mp g]; exact ha
theorem roP_blind {G : GG} {av : List Value} {B : Heap → Prop} : FrameBlind (roP G av B) := fun a U g mk q => ⟨q.1, q.2.1.same (U := U.calling g mk a) rfl, q.2.2⟩
theorem ro_preV {G : GG} {s : State} {H : Heap} {b ci : Nat} {fs : List Value} {B : Heap → Prop} {As : List Value} {q : vw_C} (hK : gK G s) (hat : oA G b ci fs H) (hc : vwCl[ci]? = some q) (hB : B H) : PreV s H q.1 b (roP G (.ref b :: As) B) As :=
  ⟨roP_blind, va_recv (ws := [(b, .inr (ci, fs))]) (q0 := 0) hK.1 (one_P hat) hc rfl, fun U hU hW => ⟨rfl, hK.warm hW, by rw [hU]; exact hB⟩⟩
theorem ro_preS {G : GG} {s : State} {H : Heap} {B : Heap → Prop} {As : List Value} (hK : gK G s) (hB : B H) : PreS s H (roP G As B) As :=
  ⟨roP_blind, fun U hU hW => ⟨rfl, hK.warm hW, by rw [hU]; exact hB⟩⟩
section OWN
variable {p : Program} {l : Launch} {e : Env} {R : Room} {s : State} {m : MethodId} {args : Array Value} {below : List Frame} {meth : Method} {c : Code} {H : Heap} {locs : List Loc} {cells slots : Nat} {Q : State → Prop}
variable {cc : ByteArray} {pc : Nat} {ls : Array Slot} {rest st0 : List Value} {a9 : Array Value}
/-- a call that keeps the heap, with an answer -/
theorem ro_call {v : Value} (hr : va_Run p l e R s m args below meth c H locs cells slots 0 0 (F0 m pc ls st0) rest (roQ (some v) a9) nF)
    (k : W p l e R s m args below meth c H locs cells slots Q (F0 m (pc + 3) ls (v :: rest))) : W p l e R s m args below meth c H locs cells slots Q (F0 m pc ls st0) := by
  intro T hT X
  obtain ⟨w, st₀, t, T', L, h0, X', hL, e1, e2, ⟨hv, hh⟩, st⟩ := hr T hT X
  cases hv
  have hL0 : L = [] := List.eq_nil_iff_forall_not_mem.mpr (fun q hq => hL q hq)
  subst hL0
  rw [List.append_nil] at X'
  obtain ⟨t2, a1, b1⟩ := k T' (by rw [e1, hh, h0]) X'
  exact ⟨t2, st t2 a1, b1⟩
theorem ro_callv (hr : va_Run p l e R s m args below meth c H locs cells slots 0 0 (F0 m pc ls st0) rest (roQ none a9) nF)
    (k : W p l e R s m args below meth c H locs cells slots Q (F0 m (pc + 3) ls rest)) : W p l e R s m args below meth c H locs cells slots Q (F0 m pc ls st0) := by
  intro T hT X
  obtain ⟨w, st₀, t, T', L, h0, X', hL, e1, e2, ⟨hv, hh⟩, st⟩ := hr T hT X
  cases hv
  have hL0 : L = [] := List.eq_nil_iff_forall_not_mem.mpr (fun q hq => hL q hq)
  subst hL0
  rw [List.append_nil] at X'
  obtain ⟨t2, a1, b1⟩ := k T' (by rw [e1, hh, h0]) X'
  exact ⟨t2, st t2 a1, b1⟩
/-- a call that changes cells of A1 alone -/
theorem wr_call {A A1 : Nat → Prop} {H0 : Heap} {B : Heap → Prop} {v : Value} (hr : va_Run p l e R s m args below meth c H locs cells slots 0 0 (F0 m pc ls st0) rest (wrQ (some v) B A1 a9) A1) (hS : wS A H0 H locs) (hA : ∀ q, A1 q → A q)
    (k : ∀ (H1 : Heap) (locs1 : List Loc), B H1 → (∀ q : Nat, ¬ A1 q → H1[q]? = H[q]?) → wS A H0 H1 locs1 → W p l e R s m args below meth c H1 locs1 cells slots Q (F0 m (pc + 3) ls (v :: rest))) : W p l e R s m args below meth c H locs cells slots Q (F0 m pc ls st0) := by
  intro T hT X
  obtain ⟨w, st₀, t, T', L, h0, X', hL, e1, e2, ⟨hv, hb, hz, hh⟩, st⟩ := hr T hT X
  cases hv
  rw [← e1] at hb hz hh
  rw [h0] at hz hh
  obtain ⟨t2, a1, b1⟩ := k T'.heap (locs ++ L) hb hh ⟨hz.trans hS.1, fun q hq => by rw [hh q (fun z => hq (hA q z))]; exact hS.2.1 q hq, fun q hq => by
      rcases List.mem_append.mp hq with g | g
      · exact hS.2.2 q g
      · exact hA _ (hL q g)⟩ T' rfl X'
  exact ⟨t2, st t2 a1, b1⟩
theorem wr_callv {A A1 : Nat → Prop} {H0 : Heap} {B : Heap → Prop} (hr : va_Run p l e R s m args below meth c H locs cells slots 0 0 (F0 m pc ls st0) rest (wrQ none B A1 a9) A1) (hS : wS A H0 H locs) (hA : ∀ q, A1 q → A q)
    (k : ∀ (H1 : Heap) (locs1 : List Loc), B H1 → (∀ q : Nat, ¬ A1 q → H1[q]? = H[q]?) → wS A H0 H1 locs1 → W p l e R s m args below meth c H1 locs1 cells slots Q (F0 m (pc + 3) ls rest)) : W p l e R s m args below meth c H locs cells slots Q (F0 m pc ls st0) := by
  intro T hT X
  obtain ⟨w, st₀, t, T', L, h0, X', hL, e1, e2, ⟨hv, hb, hz, hh⟩, st⟩ := hr T hT X
  cases hv
  rw [← e1] at hb hz hh
  rw [h0] at hz hh
  obtain ⟨t2, a1, b1⟩ := k T'.heap (locs ++ L) hb hh ⟨hz.trans hS.1, fun q hq => by rw [hh q (fun z => hq (hA q z))]; exact hS.2.1 q hq, fun q hq => by
      rcases List.mem_append.mp hq with g | g
      · exact hS.2.2 q g
      · exact hA _ (hL q g)⟩ T' rfl X'
  exact ⟨t2, st t2 a1, b1⟩
/-- a branch on a boolean -/
theorem bz_eq (hexec : p.tables.exec = Jvm.exec) (hb : c.code = cc) {x : Bool} {off : Int} {tgt : Nat} (hdg : decode cc pc = .ok (.ifCond .eq off, 3)) (ht : (pc : Int) + off = (tgt : Int))
    (kt : ¬ x = true → W p l e R s m args below meth c H locs cells slots Q (F0 m tgt ls rest)) (kf : x = true → W p l e R s m args below meth c H locs cells slots Q (F0 m (pc + 3) ls rest)) : W p l e R s m args below meth c H locs cells slots Q (F0 m pc ls (.int (b2i x) :: rest)) :=
  lv_if_eq hexec hb hdg ht (fun h => kt ((b2i_eq0 x).mp h)) (fun h => kf (Decidable.of_not_not (fun z => h ((b2i_eq0 x).mpr z))))
theorem bz_ne (hexec : p.tables.exec = Jvm.exec) (hb : c.code = cc) {x : Bool} {off : Int} {tgt : Nat} (hdg : decode cc pc = .ok (.ifCond .ne off, 3)) (ht : (pc : Int) + off = (tgt : Int))
    (kt : x = true → W p l e R s m args below meth c H locs cells slots Q (F0 m tgt ls rest)) (kf : ¬ x = true → W p l e R s m args below meth c H locs cells slots Q (F0 m (pc + 3) ls rest)) : W p l e R s m args below meth c H locs cells slots Q (F0 m pc ls (.int (b2i x) :: rest)) :=
  lv_if_ne hexec hb hdg ht (fun h => kt (Decidable.of_not_not (fun z => h ((b2i_eq0 x).mpr z)))) (fun h => kf ((b2i_eq0 x).mp h))
/-- ends of a method that keeps the heap -/
theorem ro_iret {v r : Int32} {A1 : Addr → Prop} (hexec : p.tables.exec = Jvm.exec) (hb : c.code = cc) (hr : meth.sig.returnType = some .int) (hlocks : meth.locks = false) (hdg : decode cc pc = .ok (.ireturn, 1)) (hv : v = r) :
    W p l e R s m args below meth c s.heap [] cells slots (MQ below (roQ (some (.int r))) args s cells slots A1) (F0 m pc ls [.int v]) := by
  subst hv
  exact W.iret hexec hb hr (fun t ht _ => ⟨rfl, ht⟩) (fun _ h => by cases h) hdg hlocks
theorem ro_zret {v : Int32} {r : Bool} {A1 : Addr → Prop} (hexec : p.tables.exec = Jvm.exec) (hb : c.code = cc) (hr : meth.sig.returnType = some .boolean) (hlocks : meth.locks = false) (hdg : decode cc pc = .ok (.ireturn, 1)) (hv : v = b2i r) :
    W p l e R s m args below meth c s.heap [] cells slots (MQ below (roQ (some (.int (b2i r)))) args s cells slots A1) (F0 m pc ls [.int v]) := by
  subst hv
  exact W.zret hexec hb hr (b2i_nar r) (fun t ht _ => ⟨rfl, ht⟩) (fun _ h => by cases h) hdg hlocks
theorem ro_lret {v r : Int64} {A1 : Addr → Prop} (hexec : p.tables.exec = Jvm.exec) (hb : c.code = cc) (hr : meth.sig.returnType = some .long) (hlocks : meth.locks = false) (hdg : decode cc pc = .ok (.lreturn, 1)) (hv : v = r) :
    W p l e R s m args below meth c s.heap [] cells slots (MQ below (roQ (some (.long r))) args s cells slots A1) (F0 m pc ls [.long v]) := by
  subst hv
  exact W.lret hexec hb hr (fun t ht _ => ⟨rfl, ht⟩) (fun _ h => by cases h) hdg hlocks
/-- ends of a method that changes cells of A -/
theorem wr_iret {v r : Int32} {A : Nat → Prop} {B : Heap → Prop} (hexec : p.tables.exec = Jvm.exec) (hb : c.code = cc) (hr : meth.sig.returnType = some .int) (hlocks : meth.locks = false) (hdg : decode cc pc = .ok (.ireturn, 1)) (hS : wS A s.heap H locs) (hB : B H) (hv : v = r) :
    W p l e R s m args below meth c H locs cells slots (MQ below (wrQ (some (.int r)) B A) args s cells slots A) (F0 m pc ls [.int v]) := by
  subst hv
  exact W.iret hexec hb hr (fun t ht _ => ⟨rfl, by rw [ht]; exact hB, by rw [ht]; exact hS.1, fun q hq => by rw [ht]; exact hS.2.1 q hq⟩) hS.2.2 hdg hlocks
theorem wr_zret {v : Int32} {r : Bool} {A : Nat → Prop} {B : Heap → Prop} (hexec : p.tables.exec = Jvm.exec) (hb : c.code = cc) (hr : meth.sig.returnType = some .boolean) (hlocks : meth.locks = false) (hdg : decode cc pc = .ok (.ireturn, 1)) (hS : wS A s.heap H locs) (hB : B H) (hv : v = b2i r) :
    W p l e R s m args below meth c H locs cells slots (MQ below (wrQ (some (.int (b2i r))) B A) args s cells slots A) (F0 m pc ls [.int v]) := by
  subst hv
  exact W.zret hexec hb hr (b2i_nar r) (fun t ht _ => ⟨rfl, by rw [ht]; exact hB, by rw [ht]; exact hS.1, fun q hq => by rw [ht]; exact hS.2.1 q hq⟩) hS.2.2 hdg hlocks
theorem wr_lret {v r : Int64} {A : Nat → Prop} {B : Heap → Prop} (hexec : p.tables.exec = Jvm.exec) (hb : c.code = cc) (hr : meth.sig.returnType = some .long) (hlocks : meth.locks = false) (hdg : decode cc pc = .ok (.lreturn, 1)) (hS : wS A s.heap H locs) (hB : B H) (hv : v = r) :
    W p l e R s m args below meth c H locs cells slots (MQ below (wrQ (some (.long r)) B A) args s cells slots A) (F0 m pc ls [.long v]) := by
  subst hv
  exact W.lret hexec hb hr (fun t ht _ => ⟨rfl, by rw [ht]; exact hB, by rw [ht]; exact hS.1, fun q hq => by rw [ht]; exact hS.2.1 q hq⟩) hS.2.2 hdg hlocks
theorem wr_vret {A : Nat → Prop} {B : Heap → Prop} (hexec : p.tables.exec = Jvm.exec) (hb : c.code = cc) (hr : meth.sig.returnType = none) (hlocks : meth.locks = false) (hdg : decode cc pc = .ok (.return_, 1)) (hS : wS A s.heap H locs) (hB : B H) :
    W p l e R s m args below meth c H locs cells slots (MQ below (wrQ none B A) args s cells slots A) (F0 m pc ls []) :=
  W.vret hexec hb hr (fun t ht _ => ⟨rfl, by rw [ht]; exact hB, by rw [ht]; exact hS.1, fun q hq => by rw [ht]; exact hS.2.1 q hq⟩) hS.2.2 hdg hlocks
/-- reads -/
theorem r_get {G : GG} (hexec : p.tables.exec = Jvm.exec) (hb : c.code = cc) {own ref C : String} {T : u_T} {N ci index a : Nat} {Ts : List Cond} (hts : ∀ w ∈ Ts, w.before args s = true) (hin : ∀ w ∈ u_ws C T N, w ∈ Ts) (hown : s.vm.findClass own = some m.cls) (hK : gK G s) {fs : List Value} (hat : oA G a ci fs H) (hc : vwCl[ci]? = some (C, T, N)) (k : Nat) (hk : k < N) (hlink : Cond.fieldLink own index ref (T k).2.1 (T k).2.2.1 ∈ Ts) (href : (T k).1 = ref) {v : Value} (hv : fs[k]? = some v) (hdg : decode cc pc = .ok (.getfield index, 3))
    (kk : W p l e R s m args below meth c H locs cells slots Q (F0 m (pc + 3) ls (v :: rest))) : W p l e R s m args below meth c H locs cells slots Q (F0 m pc ls (.ref a :: rest)) :=
  va_get (ws := [(a, .inr (ci, fs))]) hexec hb hts hin hown hK.1 (one_P hat) 0 rfl hc k hk (hts _ hlink) (fun x h9 => by rw [← href]; exact h9) hv hdg kk
theorem r_iald {G : GG} (hexec : p.tables.exec = Jvm.exec) (hb : c.code = cc) (hK : gK G s) {a n : Nat} {f : Nat → Int32} (hat : iA G 1 a n f H) {i : Int32} (hin : vp_in i n) (hdg : decode cc pc = .ok (.iaload, 1))
    (kk : W p l e R s m args below meth c H locs cells slots Q (F0 m (pc + 1) ls (.int (f i.toNatClampNeg) :: rest))) : W p l e R s m args below meth c H locs cells slots Q (F0 m pc ls (.int i :: .ref a :: rest)) :=
  va_iald (ws := [(a, .inl (G.2 1, n, .inl f))]) hexec hb hK.1 (one_P hat) 0 1 rfl rfl hin hdg kk
theorem r_bald {G : GG} (hexec : p.tables.exec = Jvm.exec) (hb : c.code = cc) (hK : gK G s) {a n : Nat} {f : Nat → Int32} (hat : iA G 0 a n f H) {i : Int32} (hin : vp_in i n) (hdg : decode cc pc = .ok (.baload, 1))
    (kk : W p l e R s m args below meth c H locs cells slots Q (F0 m (pc + 1) ls (.int (f i.toNatClampNeg) :: rest))) : W p l e R s m args below meth c H locs cells slots Q (F0 m pc ls (.int i :: .ref a :: rest)) :=
  va_bald (ws := [(a, .inl (G.2 0, n, .inl f))]) hexec hb hK.1 (one_P hat) 0 0 rfl rfl hin hdg kk
theorem r_zald {G : GG} (hexec : p.tables.exec = Jvm.exec) (hb : c.code = cc) (hK : gK G s) {a n : Nat} {f : Nat → Int32} (hat : iA G 2 a n f H) {i : Int32} (hin : vp_in i n) (hdg : decode cc pc = .ok (.baload, 1))
    (kk : W p l e R s m args below meth c H locs cells slots Q (F0 m (pc + 1) ls (.int (f i.toNatClampNeg) :: rest))) : W p l e R s m args below meth c H locs cells slots Q (F0 m pc ls (.int i :: .ref a :: rest)) :=
  va_zald (ws := [(a, .inl (G.2 2, n, .inl f))]) hexec hb hK.1 (one_P hat) 0 2 rfl rfl hin hdg kk
theorem r_qald {G : GG} (hexec : p.tables.exec = Jvm.exec) (hb : c.code = cc) (hK : gK G s) {a n : Nat} {f : Nat → Option Nat} (hat : qA G a n f H) {i : Int32} (hin : vp_in i n) {q : Nat} (hq : f i.toNatClampNeg = some q) (hdg : decode cc pc = .ok (.aaload, 1))
    (kk : W p l e R s m args below meth c H locs cells slots Q (F0 m (pc + 1) ls (.ref q :: rest))) : W p l e R s m args below meth c H locs cells slots Q (F0 m pc ls (.int i :: .ref a :: rest)) :=
  va_aldq (ws := [(a, .inl (G.2 3, n, .inr (.inr (.inr (.inr f)))))]) hexec hb hK.1 (one_P hat) 0 3 rfl rfl hin hdg (by rw [hq]; exact kk)
/-- writes: what is said of the new heap is the one cell, and that no other has changed -/
theorem w_put {G : GG} {A : Nat → Prop} {H0 : Heap} (hexec : p.tables.exec = Jvm.exec) (hb : c.code = cc) {own ref C : String} {T : u_T} {N ci index a : Nat} {Ts : List Cond} (hts : ∀ w ∈ Ts, w.before args s = true) (hin : ∀ w ∈ u_ws C T N, w ∈ Ts) (ty0 : Nat → FieldType) (hty : ∀ k, k < N → parseFieldDescriptor (T k).2.2.1 = some (ty0 k)) (hnm : ∀ a, a < N → ∀ b, b < N → a ≠ b → (T a).2.1 ≠ (T b).2.1) (hown : s.vm.findClass own = some m.cls) (hK : gK G s) {fs : List Value} (hat : oA G a ci fs H) (hS0 : wS A H0 H locs) (hA : A a) (hc : vwCl[ci]? = some (C, T, N)) (k : Nat) (hk : k < N) (hlink : Cond.fieldLink own index ref (T k).2.1 (T k).2.2.1 ∈ Ts) (href : (T k).1 = ref) (hfin : (T k).2.2.2 = false) {v : Value} (hn : narrow (ty0 k) v = v) (hfit : fits (ty0 k) v = true) (hl : k < fs.length)
    (hdg : decode cc pc = .ok (.putfield index, 3)) (kk : ∀ (H1 : Heap) (locs1 : List Loc), oA G a ci (fs.set k v) H1 → (∀ q : Nat, q ≠ a → H1[q]? = H[q]?) → wS A H0 H1 locs1 → W p l e R s m args below meth c H1 locs1 cells slots Q (F0 m (pc + 3) ls rest)) : W p l e R s m args below meth c H locs cells slots Q (F0 m pc ls (v :: .ref a :: rest)) := by
  have hap := va_apart (own := own) hts hin ty0 hty hnm hK.1 hc
  obtain ⟨r, h1, cell, q1, q2, q3, q4⟩ := hat
  have hr : r = (C, T, N) := Option.some.inj (h1.symm.trans hc)
  subst hr
  obtain ⟨hS, hfc, kC, hkC, hkind⟩ := hK.1.1 ci _ hc
  obtain ⟨cf, kf, fi, f, hi, hsl⟩ := hS k hk
  have hlay := hts _ (hin _ (u_in_lay hk))
  unfold u_lay at hlay
  rw [if_neg (by rw [hfin]; decide)] at hlay
  have hst := (u_facts hfc hkC (u_lays hts hin hk) hi).1
  have h6 := u_store hfc hkC hkind hlay hi (hty k hk) hn hfit
  refine W.putK hexec hb (f := f) ⟨hown, hts _ hlink, ⟨_, _, _, (by rw [← href]; exact hi)⟩, hst⟩ (by rw [q2]; exact h6) q1 q3 (by rw [hsl]; exact k2_hasslot (q4 k hk)) rfl rfl hdg fun H' e1 e2 e3 => ?_
  rw [hsl] at e1 ⊢
  exact kk H' _ ⟨_, hc, t_OB.to (V := updV (vp_V fs) k v) ⟨_, e1, q2, q3, t_set q4 hap hk v⟩ (fun j _ => vp_updV_set hl v j)⟩ e3 (hS0.put e2 e3 hA)
theorem w_iast {G : GG} {A : Nat → Prop} {H0 : Heap} (hexec : p.tables.exec = Jvm.exec) (hb : c.code = cc) (hK : gK G s) {a n : Nat} {f : Nat → Int32} (hat : iA G 1 a n f H) (hS : wS A H0 H locs) (hA : A a) {i x : Int32} (hin : vp_in i n) (hdg : decode cc pc = .ok (.iastore, 1))
    (kk : ∀ (H1 : Heap) (locs1 : List Loc), iA G 1 a n (upd f i.toNatClampNeg x) H1 → (∀ q : Nat, q ≠ a → H1[q]? = H[q]?) → wS A H0 H1 locs1 → W p l e R s m args below meth c H1 locs1 cells slots Q (F0 m (pc + 1) ls rest)) : W p l e R s m args below meth c H locs cells slots Q (F0 m pc ls (.int x :: .int i :: .ref a :: rest)) := by
  refine W.iast hexec hb hat ((hK.1.2 1 _ rfl).1 n (fun j => .int (f j))) (fun q => by cases q) (by show ¬ (i < 0 ∨ (arrV _ _ _).slots.size ≤ _); rw [arrV_size]; exact hin) rfl rfl hdg fun H1 e z oq => ?_
  refine kk H1 _ ?_ oq (hS.put z oq hA)
  show H1[a]? = some (vp_cell _ _)
  rw [e]
  rw [vp_cell_i, vp_cell_i, arrV_store]
  congr 2
  funext q
  by_cases hq : q = i.toNatClampNeg
  · subst hq
    simp [updV, upd]
  · simp [updV, upd, hq]
theorem w_bast {G : GG} {A : Nat → Prop} {H0 : Heap} (hexec : p.tables.exec = Jvm.exec) (hb : c.code = cc) (hK : gK G s) {a n : Nat} {f : Nat → Int32} (hat : iA G 0 a n f H) (hS : wS A H0 H locs) (hA : A a) {i x : Int32} (hin : vp_in i n) (hdg : decode cc pc = .ok (.bastore, 1))
    (kk : ∀ (H1 : Heap) (locs1 : List Loc), iA G 0 a n (upd f i.toNatClampNeg (vp_nar .byte x)) H1 → (∀ q : Nat, q ≠ a → H1[q]? = H[q]?) → wS A H0 H1 locs1 → W p l e R s m args below meth c H1 locs1 cells slots Q (F0 m (pc + 1) ls rest)) : W p l e R s m args below meth c H locs cells slots Q (F0 m pc ls (.int x :: .int i :: .ref a :: rest)) := by
  refine W.bast hexec hb hat ((hK.1.2 0 _ rfl).1 n (fun j => .int (f j))) (fun q => by cases q) (by show ¬ (i < 0 ∨ (arrV _ _ _).slots.size ≤ _); rw [arrV_size]; exact hin) rfl rfl hdg fun H1 e z oq => ?_
  refine kk H1 _ ?_ oq (hS.put z oq hA)
  show H1[a]? = some (vp_cell _ _)
  rw [e]
  rw [vp_cell_i, vp_cell_i, arrV_store]
  congr 2
  funext q
  by_cases hq : q = i.toNatClampNeg
  · subst hq
    simp [updV, upd, vp_nar]
    rfl
  · simp [updV, upd, hq]
theorem w_zast {G : GG} {A : Nat → Prop} {H0 : Heap} (hexec : p.tables.exec = Jvm.exec) (hb : c.code = cc) (hK : gK G s) {a n : Nat} {f : Nat → Int32} (hat : iA G 2 a n f H) (hS : wS A H0 H locs) (hA : A a) {i x : Int32} (hin : vp_in i n) (hdg : decode cc pc = .ok (.bastore, 1))
    (kk : ∀ (H1 : Heap) (locs1 : List Loc), iA G 2 a n (upd f i.toNatClampNeg (vp_nar .boolean x)) H1 → (∀ q : Nat, q ≠ a → H1[q]? = H[q]?) → wS A H0 H1 locs1 → W p l e R s m args below meth c H1 locs1 cells slots Q (F0 m (pc + 1) ls rest)) : W p l e R s m args below meth c H locs cells slots Q (F0 m pc ls (.int x :: .int i :: .ref a :: rest)) := by
  refine W.zast hexec hb hat ((hK.1.2 2 _ rfl).1 n (fun j => .int (f j))) (fun q => by cases q) (by show ¬ (i < 0 ∨ (arrV _ _ _).slots.size ≤ _); rw [arrV_size]; exact hin) rfl rfl hdg fun H1 e z oq => ?_
  refine kk H1 _ ?_ oq (hS.put z oq hA)
  show H1[a]? = some (vp_cell _ _)
  rw [e]
  rw [vp_cell_i, vp_cell_i, arrV_store]
  congr 2
  funext q
  by_cases hq : q = i.toNatClampNeg
  · subst hq
    simp [updV, upd, vp_nar]
    try rfl
  · simp [updV, upd, hq]
theorem r_alen {G : GG} (hexec : p.tables.exec = Jvm.exec) (hb : c.code = cc) (hK : gK G s) {a n : Nat} {f : Nat → Int32} (hat : iA G 1 a n f H) (hdg : decode cc pc = .ok (.arraylength, 1))
    (kk : W p l e R s m args below meth c H locs cells slots Q (F0 m (pc + 1) ls (.int (nI n) :: rest))) : W p l e R s m args below meth c H locs cells slots Q (F0 m pc ls (.ref a :: rest)) := by
  refine W.alen (n := nI n) hexec hb hat ((hK.1.2 1 _ rfl).1 n (fun j => .int (f j))) ?_ rfl rfl hdg kk
  show (arrV _ _ _).slots.size.toInt32 = _
  rw [arrV_size]; rfl
/-- where several ways meet -/
theorem join_at {nL pcJ : Nat} {st : List Value} (pc2 : Nat) (locJ : List (Nat × Value)) (stJ : List Value) (k : ∀ ls : Array Slot, lv_has ls nL locJ → W p l e R s m args below meth c H locs cells slots Q (F0 m pc2 ls stJ))
    (main : (∀ ls : Array Slot, lv_has ls nL locJ → W p l e R s m args below meth c H locs cells slots Q (F0 m pc2 ls stJ)) → W p l e R s m args below meth c H locs cells slots Q (F0 m pcJ ls st)) : W p l e R s m args below meth c H locs cells slots Q (F0 m pcJ ls st) := main k
/-- a loop that keeps the heap: a value that falls, what holds at its head -/
theorem loop_at {α : Type} {nL : Nat} {st : List Value} (loc : α → List (Nat × Value)) (I : α → Prop) (μ : α → Nat) (a0 : α) (h0 : I a0) (hl0 : lv_has ls nL (loc a0))
    (body : ∀ a : α, I a → (∀ a2 : α, I a2 → μ a2 < μ a → ∀ ls : Array Slot, lv_has ls nL (loc a2) → W p l e R s m args below meth c H locs cells slots Q (F0 m pc ls st)) → ∀ ls : Array Slot, lv_has ls nL (loc a) → W p l e R s m args below meth c H locs cells slots Q (F0 m pc ls st)) :
    W p l e R s m args below meth c H locs cells slots Q (F0 m pc ls st) := by
  have key : ∀ (n : Nat) (a : α), μ a < n → I a → ∀ ls : Array Slot, lv_has ls nL (loc a) → W p l e R s m args below meth c H locs cells slots Q (F0 m pc ls st) := by
    intro n
    induction n with
    | zero => intro a h; exact absurd h (Nat.not_lt_zero _)
    | succ n ih => exact fun a h hI ls hl => body a hI (fun a2 h2 hlt ls hl => ih a2 (by omega) h2 ls hl) ls hl
  exact key (μ a0 + 1) a0 (Nat.lt_succ_self _) h0 ls hl0
/-- a loop that changes cells -/
theorem loop_wr {α : Type} {nL : Nat} {st : List Value} (loc : α → List (Nat × Value)) (I : α → Heap → List Loc → Prop) (μ : α → Nat) (a0 : α) (h0 : I a0 H locs) (hl0 : lv_has ls nL (loc a0))
    (body : ∀ (a : α) (H : Heap) (locs : List Loc), I a H locs → (∀ (a2 : α) (H2 : Heap) (locs2 : List Loc), I a2 H2 locs2 → μ a2 < μ a → ∀ ls : Array Slot, lv_has ls nL (loc a2) → W p l e R s m args below meth c H2 locs2 cells slots Q (F0 m pc ls st)) → ∀ ls : Array Slot, lv_has ls nL (loc a) → W p l e R s m args below meth c H locs cells slots Q (F0 m pc ls st)) :
    W p l e R s m args below meth c H locs cells slots Q (F0 m pc ls st) := by
  have key : ∀ (n : Nat) (a : α) (H : Heap) (locs : List Loc), μ a < n → I a H locs → ∀ ls : Array Slot, lv_has ls nL (loc a) → W p l e R s m args below meth c H locs cells slots Q (F0 m pc ls st) := by
    intro n
    induction n with
    | zero => intro a H locs h; exact absurd h (Nat.not_lt_zero _)
    | succ n ih => exact fun a H locs h hI ls hl => body a H locs hI (fun a2 H2 locs2 h2 hlt ls hl => ih a2 H2 locs2 (by omega) h2 ls hl) ls hl
  exact key (μ a0 + 1) a0 H locs (Nat.lt_succ_self _) h0 ls hl0
end OWN

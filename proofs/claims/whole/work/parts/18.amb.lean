/-! WHAT NOBODY WRITES: the text constants, two tables, two statics of the JDK -/
def txB : Nat → List Nat := fun i => match i with
  | 0 => [114, 111, 109, 32]
  | 1 => [118, 101, 114, 32]
  | 2 => [105, 112, 32]
  | 3 => [97, 121, 32]
  | 4 => [48, 49, 50]
  | 5 => [48, 49, 50, 51]
  | 6 => [97, 107, 109, 116, 101, 119, 99]
  | 7 => [60, 61, 62]
  | 8 => [48, 49, 50, 51, 52, 53, 54, 55, 56, 57]
  | 9 => [102, 114, 111, 109, 32]
  | 10 => [111, 118, 101, 114, 32]
  | 11 => [108, 105, 112, 32]
  | 12 => [97, 121, 32]
  | 13 => [97, 107, 109, 116, 101, 119, 99]
  | _ => [60, 61, 62]
def txO : Nat → String := fun i => if i < 9 then RX3 else RX6
def txI : Nat → Nat := fun i => [41, 50, 55, 60, 62, 76, 105, 107, 109, 107, 117, 119, 121, 93, 99].getD i 0
def txT : Nat → String := fun i => ["rom ", "ver ", "ip ", "ay ", "012", "0123", "akmtewc", "<=>", "0123456789", "from ", "over ", "lip ", "ay ", "akmtewc", "<=>"].getD i ""
theorem txB_len (i : Nat) : (txB i).length ≤ 10 := by
  unfold txB
  split <;> decide
theorem txB_lt (i : Nat) : ∀ c ∈ txB i, c < 128 := by
  unfold txB
  split <;> decide
theorem txB_get (i j : Nat) : (txB i).getD j 0 < 128 := by
  rcases Nat.lt_or_ge j (txB i).length with h | h
  · rw [List.getD_eq_getElem?_getD, List.getElem?_eq_getElem h]
    exact txB_lt i _ (List.getElem_mem h)
  · rw [List.getD_eq_getElem?_getD, List.getElem?_eq_none h]
    decide
def tAbv : Nat → Int32 := fun j => ([(-1), 0, 0, 2, 1, 2, 3] : List Int32).getD j 0
def tBod : Nat → Int32 := fun j => ([1, 2, 3, 11, 0, 0, 0, 21, 0, 0, 0, 31, 0, 0, 41, 51, 0, 0, 0, 61, 0] : List Int32).getD j 0
/-- the cells that are ours; the texts' addresses, their bytes' addresses; the two tables' addresses -/
abbrev AM : Type := (Nat → Prop) × (Nat → Nat) × (Nat → Nat) × Nat × Nat
abbrev zK (Z : AM) (i : Nat) : Nat := Z.2.1 i
abbrev zV (Z : AM) (i : Nat) : Nat := Z.2.2.1 i
abbrev zA (Z : AM) : Nat := Z.2.2.2.1
abbrev zB (Z : AM) : Nat := Z.2.2.2.2
def am1 (A : Nat → Prop) (k v : Nat) (L : List Nat) (U : State) (H : Heap) : Prop := va_O "java/lang/String" k A U H ∧ va_OF "java/lang/String" "coder" "B" (.int 0) k A U H ∧ va_OF "java/lang/String" "value" "[B" (.ref v) k A U H ∧ va_T .byte v L.length (fun j => .int (nI (L.getD j 0))) A U H
def amK (Z : AM) (U : State) (H : Heap) : Prop := (∀ i, i < 15 → am1 Z.1 (zK Z i) (zV Z i) (txB i) U H) ∧ va_Z "java/lang/String" "COMPACT_STRINGS" "Z" (.int 1) Z.1 U H ∧ va_Zq "jdk/internal/util/Preconditions" "SIOOBE_FORMATTER" "Ljava/util/function/BiFunction;" Z.1 U H ∧ (va_Z "SameWater" "ABOVE" "[I" (.ref (zA Z)) Z.1 U H ∧ va_T .int (zA Z) 7 (fun j => .int (tAbv j)) Z.1 U H) ∧ (va_Z "SameWater" "BODIES" "[I" (.ref (zB Z)) Z.1 U H ∧ va_T .int (zB Z) 21 (fun j => .int (tBod j)) Z.1 U H) ∧ ∀ i, i < 15 → vk_R (txO i) (txI i) (txT i) (zK Z i) U
theorem am1.moved {A : Nat → Prop} {k v : Nat} {L : List Nat} {u U : State} {H : Heap} (hvm : u.vm.Alike U.vm) (h : am1 A k v L u H) : am1 A k v L U H := ⟨va_O.moved hvm h.1, va_OF.moved hvm h.2.1, va_OF.moved hvm h.2.2.1, va_T.moved hvm h.2.2.2⟩
theorem am1.kept {A : Nat → Prop} {k v : Nat} {L : List Nat} {U : State} {H H1 : Heap} (h : am1 A k v L U H) (hq : ∀ a : Nat, ¬ A a → H1[a]? = H[a]?) : am1 A k v L U H1 := ⟨h.1.kept (fun a _ => hq a), h.2.1.kept (fun a _ => hq a), h.2.2.1.kept (fun a _ => hq a), h.2.2.2.kept (fun a _ => hq a)⟩
theorem amK.warm {Z : AM} {s U : State} {H : Heap} (hW : s.WarmedH U.vm) (h : amK Z s H) : amK Z U H := by
  obtain ⟨h1, h2, h3, h4, h5, h6⟩ := h
  have hv := hW.alike
  exact ⟨fun i hi => (h1 i hi).moved hv, va_Z.moved hv h2, va_Zq.moved hv h3, ⟨va_Z.moved hv h4.1, va_T.moved hv h4.2⟩, ⟨va_Z.moved hv h5.1, va_T.moved hv h5.2⟩, fun i hi => vk_R.warm hW (h6 i hi)⟩
theorem amK.same {Z : AM} {s U : State} {H : Heap} (hv : s.vm = U.vm) (h : amK Z s H) : amK Z U H := by
  obtain ⟨h1, h2, h3, h4, h5, h6⟩ := h
  have hv2 : s.vm.Alike U.vm := hv ▸ Vm.Alike.refl s.vm
  exact ⟨fun i hi => (h1 i hi).moved hv2, va_Z.moved hv2 h2, va_Zq.moved hv2 h3, ⟨va_Z.moved hv2 h4.1, va_T.moved hv2 h4.2⟩, ⟨va_Z.moved hv2 h5.1, va_T.moved hv2 h5.2⟩, fun i hi => vk_R.same hv.symm (h6 i hi)⟩
theorem amK.kept {Z : AM} {U : State} {H H1 : Heap} (h : amK Z U H) (hq : ∀ a : Nat, ¬ Z.1 a → H1[a]? = H[a]?) : amK Z U H1 := by
  obtain ⟨h1, h2, h3, h4, h5, h6⟩ := h
  have hq' : ∀ a : Nat, a < H.size → ¬ Z.1 a → H1[a]? = H[a]? := fun a _ => hq a
  exact ⟨fun i hi => (h1 i hi).kept hq, h2.kept hq', h3.kept hq', ⟨h4.1.kept hq', h4.2.kept hq'⟩, ⟨h5.1.kept hq', h5.2.kept hq'⟩, h6⟩
theorem amK.put {Z : AM} {U : State} {H H1 : Heap} {a : Nat} (h : amK Z U H) (ha : Z.1 a) (hq : ∀ q : Nat, q ≠ a → H1[q]? = H[q]?) : amK Z U H1 := h.kept (fun q hq2 => hq q (fun e => hq2 (e ▸ ha)))
/-- a contract's start where the constants are wanted too -/
def aP (G : GG) (Z : AM) (av : List Value) (B : Heap → Prop) : Array Value → State → Prop := fun v U => v = av.toArray ∧ gK G U ∧ amK Z U U.heap ∧ B U.heap
theorem aP_blind {G : GG} {Z : AM} {av : List Value} {B : Heap → Prop} : FrameBlind (aP G Z av B) := fun a U g mk q => ⟨q.1, q.2.1.same (U := U.calling g mk a) rfl, amK.same (U := U.calling g mk a) rfl q.2.2.1, q.2.2.2⟩
theorem a_preV {G : GG} {Z : AM} {s : State} {H : Heap} {b ci : Nat} {fs : List Value} {B : Heap → Prop} {As : List Value} {q : vw_C} (hK : gK G s) (hZ : amK Z s H) (hat : oA G b ci fs H) (hc : vwCl[ci]? = some q) (hB : B H) : PreV s H q.1 b (aP G Z (.ref b :: As) B) As :=
  ⟨aP_blind, va_recv (ws := [(b, .inr (ci, fs))]) (q0 := 0) hK.1 (one_P hat) hc rfl, fun U hU hW => ⟨rfl, hK.warm hW, by rw [hU]; exact hZ.warm hW, by rw [hU]; exact hB⟩⟩
theorem a_preS {G : GG} {Z : AM} {s : State} {H : Heap} {B : Heap → Prop} {As : List Value} (hK : gK G s) (hZ : amK Z s H) (hB : B H) : PreS s H (aP G Z As B) As :=
  ⟨aP_blind, fun U hU hW => ⟨rfl, hK.warm hW, by rw [hU]; exact hZ.warm hW, by rw [hU]; exact hB⟩⟩
/-- a text is the receiver -/
theorem a_preT {G : GG} {Z : AM} {s : State} {H : Heap} {i : Nat} {B : Heap → Prop} {As : List Value} (hK : gK G s) (hZ : amK Z s H) (hi : i < 15) (hB : B H) : PreV s H "java/lang/String" (zK Z i) (aP G Z (.ref (zK Z i) :: As) B) As := by
  refine ⟨aP_blind, ?_, fun U hU hW => ⟨rfl, hK.warm hW, by rw [hU]; exact hZ.warm hW, by rw [hU]; exact hB⟩⟩
  obtain ⟨cell, h1, h2, h3, -⟩ := (hZ.1 i hi).1
  exact ⟨cell, h1, h2, h3⟩
section AMB
variable {p : Program} {l : Launch} {e : Env} {R : Room} {s : State} {m : MethodId} {args : Array Value} {below : List Frame} {meth : Method} {c : Code} {H : Heap} {locs : List Loc} {cells slots : Nat} {Q : State → Prop}
variable {cc : ByteArray} {pc : Nat} {ls : Array Slot} {rest : List Value}
theorem a_gets {A : Nat → Prop} (hexec : p.tables.exec = Jvm.exec) (hb : c.code = cc) {C n d own ref : String} {v : Value} {index : Nat} {Ts : List Cond} (hZ : va_Z C n d v A s H) (hts : ∀ w ∈ Ts, w.before args s = true) (hown : s.vm.findClass own = some m.cls) (hlink : Cond.fieldLink own index ref n d ∈ Ts) (href : C = ref) (hdg : decode cc pc = .ok (.getstatic index, 3))
    (kk : W p l e R s m args below meth c H locs cells slots Q (F0 m (pc + 3) ls (v :: rest))) : W p l e R s m args below meth c H locs cells slots Q (F0 m pc ls rest) := by
  obtain ⟨cf, kf, fi, f, a, cell, h1, h2, h3, h4, h5, h6, h7, h8⟩ := hZ
  subst href
  exact W.gets hexec hb hown (hts _ hlink) h1 h2 h3 h4 h5 (fun e => by rw [e] at h6; cases h6) h7 rfl hdg kk
theorem a_getsN {A : Nat → Prop} (hexec : p.tables.exec = Jvm.exec) (hb : c.code = cc) {C n d own host : String} {v : Value} {index : Nat} (hZ : va_Z C n d v A s H) (hown : s.vm.findClass own = some m.cls) (hlink : va_Nw (.fieldLinkNest own index C n d host) s) (hdg : decode cc pc = .ok (.getstatic index, 3))
    (kk : W p l e R s m args below meth c H locs cells slots Q (F0 m (pc + 3) ls (v :: rest))) : W p l e R s m args below meth c H locs cells slots Q (F0 m pc ls rest) := by
  obtain ⟨cf, kf, fi, f, a, cell, h1, h2, h3, h4, h5, h6, h7, h8⟩ := hZ
  exact va_WgetsN hexec hb hown (va_Nw.use rfl hlink) h1 h2 h3 h4 h5 (fun e => by rw [e] at h6; cases h6) h7 rfl hdg kk
theorem a_getf {A : Nat → Prop} (hexec : p.tables.exec = Jvm.exec) (hb : c.code = cc) {o n d own ref : String} {index q : Nat} {v : Value} {Ts : List Cond} (hE : va_OF o n d v q A s H) (hts : ∀ w ∈ Ts, w.before args s = true) (hown : s.vm.findClass own = some m.cls) (hlink : Cond.fieldLink own index ref n d ∈ Ts) (href : o = ref) (hdg : decode cc pc = .ok (.getfield index, 3))
    (kk : W p l e R s m args below meth c H locs cells slots Q (F0 m (pc + 3) ls (v :: rest))) : W p l e R s m args below meth c H locs cells slots Q (F0 m pc ls (.ref q :: rest)) := by
  obtain ⟨cf, k, fi, f, cell, h1, h2, h3, h4, h5, h6⟩ := hE
  subst href
  exact W.getf hexec hb hown (hts _ hlink) h1 h2 h3 h4 (v := v) h5 rfl rfl hdg kk
theorem a_alen {A : Nat → Prop} {ty : FieldType} (hexec : p.tables.exec = Jvm.exec) (hb : c.code = cc) {t n : Nat} {f : Nat → Value} (hT : va_T ty t n f A s H) (hdg : decode cc pc = .ok (.arraylength, 1))
    (kk : W p l e R s m args below meth c H locs cells slots Q (F0 m (pc + 1) ls (.int (nI n) :: rest))) : W p l e R s m args below meth c H locs cells slots Q (F0 m pc ls (.ref t :: rest)) := by
  obtain ⟨cell, h1, h2, h3, h4, h5, h6, h7⟩ := hT
  exact W.alen (n := nI n) hexec hb h1 h2 h5 rfl rfl hdg kk
theorem a_bald {A : Nat → Prop} (hexec : p.tables.exec = Jvm.exec) (hb : c.code = cc) {t n : Nat} {f : Nat → Value} (hT : va_T .byte t n f A s H) {i : Int32} (hin : vp_in i n) (hdg : decode cc pc = .ok (.baload, 1))
    (kk : W p l e R s m args below meth c H locs cells slots Q (F0 m (pc + 1) ls (f i.toNatClampNeg :: rest))) : W p l e R s m args below meth c H locs cells slots Q (F0 m pc ls (.int i :: .ref t :: rest)) := by
  obtain ⟨cell, h1, h2, h3, h4, h5, h6, h7⟩ := hT
  have hlt := vp_lt hin
  exact W.bald (v := f i.toNatClampNeg) hexec hb h1 h2 h3 (fun q => by
    rcases q with q | q
    · exact hin (Or.inl q)
    · omega) (h6 _ hlt) rfl rfl hdg kk
theorem a_iald {A : Nat → Prop} (hexec : p.tables.exec = Jvm.exec) (hb : c.code = cc) {t n : Nat} {f : Nat → Value} (hT : va_T .int t n f A s H) {i : Int32} (hin : vp_in i n) (hdg : decode cc pc = .ok (.iaload, 1))
    (kk : W p l e R s m args below meth c H locs cells slots Q (F0 m (pc + 1) ls (f i.toNatClampNeg :: rest))) : W p l e R s m args below meth c H locs cells slots Q (F0 m pc ls (.int i :: .ref t :: rest)) := by
  obtain ⟨cell, h1, h2, h3, h4, h5, h6, h7⟩ := hT
  have hlt := vp_lt hin
  exact W.iald (v := f i.toNatClampNeg) hexec hb h1 h2 h3 (fun q => by
    rcases q with q | q
    · exact hin (Or.inl q)
    · omega) (h6 _ hlt) rfl rfl hdg kk
theorem ro_vret {A1 : Addr → Prop} (hexec : p.tables.exec = Jvm.exec) (hb : c.code = cc) (hr : meth.sig.returnType = none) (hlocks : meth.locks = false) (hdg : decode cc pc = .ok (.return_, 1)) :
    W p l e R s m args below meth c s.heap [] cells slots (MQ below (roQ none) args s cells slots A1) (F0 m pc ls []) :=
  W.vret hexec hb hr (fun t ht _ => ⟨rfl, ht⟩) (fun _ h => by cases h) hdg hlocks
theorem join_wr {nL pcJ : Nat} {st : List Value} (pc2 : Nat) (locJ : List (Nat × Value)) (stJ : List Value) (I : Heap → List Loc → Prop) (k : ∀ (H : Heap) (locs : List Loc), I H locs → ∀ ls : Array Slot, lv_has ls nL locJ → W p l e R s m args below meth c H locs cells slots Q (F0 m pc2 ls stJ))
    (main : (∀ (H : Heap) (locs : List Loc), I H locs → ∀ ls : Array Slot, lv_has ls nL locJ → W p l e R s m args below meth c H locs cells slots Q (F0 m pc2 ls stJ)) → W p l e R s m args below meth c H locs cells slots Q (F0 m pcJ ls st)) : W p l e R s m args below meth c H locs cells slots Q (F0 m pcJ ls st) := main k
/-- a small answer (char, byte) -/
theorem ro_nret {v r : Int32} {ty : FieldType} {A1 : Addr → Prop} (hexec : p.tables.exec = Jvm.exec) (hb : c.code = cc) (hr : meth.sig.returnType = some ty) (hn : narrow ty (.int r) = .int r) (hlocks : meth.locks = false) (hdg : decode cc pc = .ok (.ireturn, 1)) (hv : v = r) :
    W p l e R s m args below meth c s.heap [] cells slots (MQ below (roQ (some (.int r))) args s cells slots A1) (F0 m pc ls [.int v]) := by
  subst hv
  exact W.zret hexec hb hr hn (fun t ht _ => ⟨rfl, ht⟩) (fun _ h => by cases h) hdg hlocks
end AMB

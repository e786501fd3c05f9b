/-! constructors: the heap grows -/
def gW (A : Nat → Prop) (H0 H : Heap) : Prop := H0.size ≤ H.size ∧ ∀ q : Nat, q < H0.size → ¬ A q → H[q]? = H0[q]?
theorem gW.rf {A : Nat → Prop} {H : Heap} : gW A H H := ⟨Nat.le_refl _, fun _ _ _ => rfl⟩
theorem gW.of {A : Nat → Prop} {H0 Hb H : Heap} {locs : List Loc} (h : gW A H0 Hb) (hS : wS A Hb H locs) : gW A H0 H := ⟨by rw [hS.1]; exact h.1, fun q h1 h2 => (hS.2.1 q h2).trans (h.2 q h1 h2)⟩
theorem gW.go {A A1 : Nat → Prop} {H0 H H1 : Heap} (h : gW A H0 H) (hz : H.size ≤ H1.size) (hA : ∀ q : Nat, A1 q → A q) (ho : ∀ q : Nat, q < H.size → ¬ A1 q → H1[q]? = H[q]?) : gW A H0 H1 := ⟨Nat.le_trans h.1 hz, fun q h1 h2 => (ho q (Nat.lt_of_lt_of_le h1 h.1) (fun z => h2 (hA q z))).trans (h.2 q h1 h2)⟩
theorem wS.restart {A : Nat → Prop} {H0 H H1 : Heap} {locs : List Loc} (h : wS A H0 H locs) : wS A H1 H1 locs := ⟨rfl, fun _ _ => rfl, h.2.2⟩
/-- the start of a constructor's contract -/
def nP (G : GG) (av : List Value) (B : Heap → Prop) : Array Value → State → Prop := fun v U => v = av.toArray ∧ (gK G U ∧ va_AO "SameWater$Law" U) ∧ B U.heap
/-- its end: old cells outside A have not changed -/
def nwQ (r : Option Value) (B : Heap → Prop) (A : Nat → Prop) : Array Value → State → Outcome → State → Prop := fun _ st o t => o = .returned r ∧ B t.heap ∧ st.heap.size ≤ t.heap.size ∧ ∀ q : Nat, q < st.heap.size → ¬ A q → t.heap[q]? = st.heap[q]?
theorem nP_preS {G : GG} {s : State} {H : Heap} {B : Heap → Prop} {As : List Value} (hK : gK G s) (hO : va_AO "SameWater$Law" s) (hB : B H) : PreS s H (nP G As B) As :=
  ⟨fun a U g mk q => ⟨q.1, ⟨q.2.1.1.same (U := U.calling g mk a) rfl, q.2.1.2.moved (U := U.calling g mk a) (Vm.Alike.refl U.vm)⟩, q.2.2⟩, fun U hU hW => ⟨rfl, ⟨hK.warm hW, hO.moved hW.alike⟩, by rw [hU]; exact hB⟩⟩
section ALC
variable {p : Program} {l : Launch} {e : Env} {R : Room} {s : State} {m : MethodId} {args : Array Value} {below : List Frame} {meth : Method} {c : Code} {H : Heap} {locs : List Loc} {cells slots : Nat} {Q : State → Prop}
variable {cc : ByteArray} {pc : Nat} {ls : Array Slot} {rest st0 : List Value} {a9 : Array Value}
theorem n_newa {G : GG} {A : Nat → Prop} {H0 : Heap} (hexec : p.tables.exec = Jvm.exec) (hb : c.code = cc) {atype : ArrayType} {Ts : List Cond} (hts : ∀ w ∈ Ts, w.before args s = true) (harr : Cond.arrayClass (newarray.typeOf atype) ∈ Ts) (hK : gK G s) {k : Nat} (hk : (gT G)[k]? = some (G.2 k, newarray.typeOf atype)) (hRA : ∀ q : ClassId, va_RA s q (newarray.typeOf atype) → s.vm.findClass ("[" ++ (newarray.typeOf atype).toString) = some q) (hdef : defaultValue (newarray.typeOf atype) = .int 0) {n : Int32} {N : Nat} (hn : n = nI N) (hN : N < 2 ^ 31) (hby : N * componentBytes (newarray.typeOf atype) ≤ 536870912) (hS : wS A H0 H locs) (hcells : cells + 1 ≤ R.cells) (hslots : slots + N ≤ R.slots) (hdg : decode cc pc = .ok (.newarray atype, 2)) {h : Nat} (hh : H.size = h)
    (kk : ∀ H1 : Heap, iA G k h N (fun _ => 0) H1 → H1.size = h + 1 → (∀ q : Nat, q < h → H1[q]? = H[q]?) → wS A H1 H1 locs → W p l e R s m args below meth c H1 locs (cells + 1) (slots + N) Q (F0 m (pc + 2) ls (.ref h :: rest))) : W p l e R s m args below meth c H locs cells slots Q (F0 m pc ls (.int n :: rest)) := by
  subst hn
  refine va_newaK hexec hb (hts _ harr) rfl hdg rfl (nI_pos hN) (nI_clamp hN) hby hcells hslots hh fun H1 cA e1 z1 o1 hAr hNm => ?_
  have e : cA = G.2 k := Option.some.inj (hNm.symm.trans (hRA _ ((hK.1.2 k _ hk).2)))
  subst e
  refine kk H1 ?_ z1 o1 hS.restart
  show H1[h]? = some (vp_cell _ _)
  rw [vp_cell_i, e1, hdef]
theorem n_new {G : GG} {A : Nat → Prop} {H0 : Heap} (hexec : p.tables.exec = Jvm.exec) (hb : c.code = cc) {own C : String} {T : u_T} {N ci index : Nat} {Ts : List Cond} (hts : ∀ w ∈ Ts, w.before args s = true) (hin : ∀ w ∈ u_ws C T N, w ∈ Ts) (ty : Nat → FieldType) (hty : ∀ k, k < N → parseFieldDescriptor (T k).2.2.1 = some (ty k)) (hown : s.vm.findClass own = some m.cls) (hcl : Cond.classLink own index C ∈ Ts) (hinst : Cond.instantiable C N ∈ Ts) (hini : Cond.initialized C ∈ Ts) (hK : gK G s) (hc : vwCl[ci]? = some (C, T, N)) {fs : List Value} (hfs : ∀ j, j < N → defaultValue (ty j) = vp_V fs j) (hS : wS A H0 H locs) (hcells : cells + 1 ≤ R.cells) (hslots : slots + N ≤ R.slots) (hdg : decode cc pc = .ok (.new index, 3)) {h : Nat} (hh : H.size = h)
    (kk : ∀ H1 : Heap, oA G h ci fs H1 → H1.size = h + 1 → (∀ q : Nat, q < h → H1[q]? = H[q]?) → wS A H1 H1 locs → W p l e R s m args below meth c H1 locs (cells + 1) (slots + N) Q (F0 m (pc + 3) ls (.ref h :: rest))) : W p l e R s m args below meth c H locs cells slots Q (F0 m pc ls rest) := by
  have hKn := hK.1.1 ci _ hc
  refine W.newcK hexec hb hown (hts _ hcl) (hts _ hinst) (hts _ hini) rfl hdg hcells hslots hKn.2.1 hh fun H1 kC hkC e1 z1 o1 => ?_
  exact kk H1 ⟨_, hc, (u_born ty hts hin hKn hkC e1 hty).to hfs⟩ z1 o1 hS.restart
theorem n_newq {G : GG} {A : Nat → Prop} {H0 : Heap} (hexec : p.tables.exec = Jvm.exec) (hb : c.code = cc) {own : String} {index : Nat} {Ts : List Cond} (hts : ∀ w ∈ Ts, w.before args s = true) (hown : s.vm.findClass own = some m.cls) (hcl : Cond.classLink own index "SameWater$Law" ∈ Ts) (hO : va_AO "SameWater$Law" s) (hK : gK G s) {n : Int32} {N : Nat} (hn : n = nI N) (hN : N < 1000) (hS : wS A H0 H locs) (hcells : cells + 1 ≤ R.cells) (hslots : slots + N ≤ R.slots) (hdg : decode cc pc = .ok (.anewarray index, 3)) {h : Nat} (hh : H.size = h)
    (kk : ∀ H1 : Heap, qA G h N (fun _ => none) H1 → H1.size = h + 1 → (∀ q : Nat, q < h → H1[q]? = H[q]?) → wS A H1 H1 locs → W p l e R s m args below meth c H1 locs (cells + 1) (slots + N) Q (F0 m (pc + 3) ls (.ref h :: rest))) : W p l e R s m args below meth c H locs cells slots Q (F0 m pc ls (.int n :: rest)) := by
  subst hn
  have hcN : (nI N).toNatClampNeg = N := nI_clamp (by omega)
  refine W.anew hexec hb hown (hts _ hcl) (va_AO.use hO) rfl hdg rfl (nI_pos (by omega)) (by rw [hcN]; omega) hcells (by rw [hcN]; exact hslots) fun cA kA comp f1 f2 f3 f4 => ?_
  rw [hcN]
  generalize hH1 : H.push ({ cls := cA, slots := Array.replicate N .null, vm := .none } : Cell) = H1
  have z1 : H1.size = H.size + 1 := by rw [← hH1, Array.size_push]
  have e1 : H1[H.size]? = some (arrV cA N (fun _ => .null)) := by rw [← hH1, Array.getElem?_push_size, ← arrV_new]
  have o1 : ∀ q : Nat, q < H.size → H1[q]? = H[q]? := fun q hq => by rw [← hH1, Array.getElem?_push, if_neg (Nat.ne_of_lt hq)]
  obtain ⟨kB, cB, -, -, -, g4⟩ := (hK.1.2 3 _ rfl).2
  have e : cA = G.2 3 := Option.some.inj (f1.symm.trans g4)
  subst e
  subst hh
  refine kk H1 ?_ z1 o1 hS.restart
  show H1[H.size]? = some (vp_cell _ _)
  rw [vp_cell_q]
  exact e1
theorem n_qast {G : GG} {A : Nat → Prop} {H0 : Heap} (hexec : p.tables.exec = Jvm.exec) (hb : c.code = cc) (hK : gK G s) {a n v ci N : Nat} {T : u_T} {vs : List Value} {f : Nat → Option Nat} (hat : qA G a n f H) (hv : oA G v ci vs H) (hc : vwCl[ci]? = some ("SameWater$Law", T, N)) (hS : wS A H0 H locs) (hA : A a) {i : Int32} (hin : vp_in i n) (hdg : decode cc pc = .ok (.aastore, 1))
    (kk : ∀ (H1 : Heap) (locs1 : List Loc), qA G a n (va_up f i.toNatClampNeg (some v)) H1 → (∀ q : Nat, q ≠ a → H1[q]? = H[q]?) → wS A H0 H1 locs1 → W p l e R s m args below meth c H1 locs1 cells slots Q (F0 m (pc + 1) ls rest)) : W p l e R s m args below meth c H locs cells slots Q (F0 m pc ls (.ref v :: .int i :: .ref a :: rest)) := by
  have hlt : i.toNatClampNeg < n := Nat.not_le.mp fun q => hin (Or.inr q)
  have h0 : ¬ i < 0 := fun q => hin (Or.inl q)
  obtain ⟨r', hr', cellV, g1, g2, g3, -⟩ := hv
  have hcls := (hK.1.1 ci _ hc).2
  obtain ⟨kA, comp, k1, k2, k3, -⟩ := (hK.1.2 3 _ rfl).2
  have hcomp : comp = G.1.1 ci := Option.some.inj (k3.symm.trans hcls.1)
  subst hcomp
  obtain ⟨kC, hkC, -⟩ := hcls.2
  refine W.aast hexec hb hat (fun q h => by cases h) (fun h => by cases h) k1 k2 rfl hkC ⟨h0, by show _ < (arrV _ _ _).slots.size; rw [arrV_size]; exact hlt⟩ g1 (fun q h => by rw [g3] at h; cases h) (by rw [g2]; exact hkC) (by rw [g2]; exact va_assign hcls) rfl rfl hdg fun H1 e z oq => ?_
  refine kk H1 _ ?_ oq (hS.put z oq hA)
  show H1[a]? = some (vp_cell _ _)
  rw [e]
  rw [vp_cell_q, vp_cell_q, arrV_store]
  congr 2
  funext q
  by_cases hq : q = i.toNatClampNeg
  · subst hq
    simp [updV, va_up, va_rf]
  · simp [updV, va_up, hq]
theorem w_putF {G : GG} {A : Nat → Prop} {H0 : Heap} (hexec : p.tables.exec = Jvm.exec) (hb : c.code = cc) {own ref C : String} {T : u_T} {N ci index a : Nat} {Ts : List Cond} (hts : ∀ w ∈ Ts, w.before args s = true) (hin : ∀ w ∈ u_ws C T N, w ∈ Ts) (ty0 : Nat → FieldType) (hty : ∀ k, k < N → parseFieldDescriptor (T k).2.2.1 = some (ty0 k)) (hnm : ∀ a, a < N → ∀ b, b < N → a ≠ b → (T a).2.1 ≠ (T b).2.1) (hown : s.vm.findClass own = some m.cls) (hK : gK G s) {fs : List Value} (hat : oA G a ci fs H) (hS0 : wS A H0 H locs) (hA : A a) (hc : vwCl[ci]? = some (C, T, N)) (k : Nat) (hk : k < N) (hlink : Cond.fieldLink own index ref (T k).2.1 (T k).2.2.1 ∈ Ts) (href : (T k).1 = ref) (hfin : (T k).2.2.2 = true) (hin2 : meth.name = "<init>") (hdecl : (T k).1 = own) {v : Value} (hn : narrow (ty0 k) v = v) (hfit : fits (ty0 k) v = true) (hl : k < fs.length)
    (hdg : decode cc pc = .ok (.putfield index, 3)) (kk : ∀ (H1 : Heap) (locs1 : List Loc), oA G a ci (fs.set k v) H1 → (∀ q : Nat, q ≠ a → H1[q]? = H[q]?) → wS A H0 H1 locs1 → W p l e R s m args below meth c H1 locs1 cells slots Q (F0 m (pc + 3) ls rest)) : W p l e R s m args below meth c H locs cells slots Q (F0 m pc ls (v :: .ref a :: rest)) := by
  have hap := va_apart (own := own) hts hin ty0 hty hnm hK.1 hc
  obtain ⟨r, h1, cell, q1, q2, q3, q4⟩ := hat
  have hr : r = (C, T, N) := Option.some.inj (h1.symm.trans hc)
  subst hr
  obtain ⟨hS, hfc, kC, hkC, hkind⟩ := hK.1.1 ci _ hc
  obtain ⟨cf, kf, fi, f, hi, hsl⟩ := hS k hk
  have hlay := hts _ (hin _ (u_in_lay hk))
  unfold u_lay at hlay
  rw [if_pos hfin] at hlay
  have hst := (u_facts hfc hkC (u_lays hts hin hk) hi).1
  have hcf : m.cls = cf := by
    obtain ⟨_, _, c', _, _, _, -, -, hf', -, -, -, hown2, -⟩ := Cond.laysFinal_spec hlay
    have e1 : c' = cf := by have := hi.symm.trans hf'; simp at this; exact this.1.symm
    rw [hdecl] at hown2
    rw [← e1]; exact Option.some.inj (hown.symm.trans hown2)
  have h6 := u_fits hfc hkC hkind (Or.inr hlay) hi (hty k hk) hn hfit
  refine W.putFinK hexec hb hown (hts _ hlink) (by rw [← href]; exact hi) hst hcf hin2 (by rw [q2]; exact h6) q1 q3 (by rw [hsl]; exact k2_hasslot (q4 k hk)) rfl rfl hdg fun H' e1 e2 e3 => ?_
  rw [hsl] at e1 ⊢
  exact kk H' _ ⟨_, hc, t_OB.to (V := updV (vp_V fs) k v) ⟨_, e1, q2, q3, t_set q4 hap hk v⟩ (fun j _ => vp_updV_set hl v j)⟩ e3 (hS0.put e2 e3 hA)
theorem n_call {A A1 : Nat → Prop} {H0 : Heap} {B : Heap → Prop} {mc ms : Nat} (hr : va_Run p l e R s m args below meth c H locs cells slots mc ms (F0 m pc ls st0) rest (nwQ none B A1 a9) A1) (hS : wS A H0 H locs) (hA : ∀ q, A1 q → A q)
    (k : ∀ (H1 : Heap) (locs1 : List Loc), B H1 → H.size ≤ H1.size → (∀ q : Nat, q < H.size → ¬ A1 q → H1[q]? = H[q]?) → wS A H1 H1 locs1 → W p l e R s m args below meth c H1 locs1 (cells + mc) (slots + ms) Q (F0 m (pc + 3) ls rest)) : W p l e R s m args below meth c H locs cells slots Q (F0 m pc ls st0) := by
  intro T hT X
  obtain ⟨w, st₀, t, T', L, h0, X', hL, e1, e2, ⟨hv, hb, hz, hh⟩, st⟩ := hr T hT X
  cases hv
  rw [← e1] at hb hz hh
  rw [h0] at hz hh
  obtain ⟨t2, a1, b1⟩ := k T'.heap (locs ++ L) hb hz hh ⟨rfl, fun _ _ => rfl, fun q hq => by
      rcases List.mem_append.mp hq with g | g
      · exact hS.2.2 q g
      · exact hA _ (hL q g)⟩ T' rfl X'
  exact ⟨t2, st t2 a1, b1⟩
theorem n_vret {A : Nat → Prop} {Hb : Heap} {B : Heap → Prop} (hexec : p.tables.exec = Jvm.exec) (hb : c.code = cc) (hr : meth.sig.returnType = none) (hlocks : meth.locks = false) (hdg : decode cc pc = .ok (.return_, 1)) (hg : gW A s.heap Hb) (hS : wS A Hb H locs) (hB : B H) :
    W p l e R s m args below meth c H locs cells slots (MQ below (nwQ none B A) args s cells slots A) (F0 m pc ls []) :=
  W.vret hexec hb hr (fun t ht _ => ⟨rfl, by rw [ht]; exact hB, by rw [ht]; exact (hg.of hS).1, fun q h1 h2 => by rw [ht]; exact (hg.of hS).2 q h1 h2⟩) hS.2.2 hdg hlocks
theorem n_obj {own : String} {idx : Nat} {Ts : List Cond} (hexec : p.tables.exec = Jvm.exec) (hb : c.code = cc) (hts : ∀ w ∈ Ts, w.before args s = true) (hown : s.vm.findClass own = some m.cls) (hlink : Cond.methodLink own idx objectInit ∈ Ts) (hinst : Cond.instanceMethod objectInit ∈ Ts) (hcode : Cond.code objectInit ⟨#[0xb1]⟩ 1 none ∈ Ts) (hsize : ls.size = c.maxLocals) {a : Nat} (hdg : decode cc pc = .ok (.invokespecial idx, 3)) (hframes : 1 ≤ R.frames) (hlocals : (rest.map fun v => v.category).sum + 12 ≤ R.locals)
    (kk : W p l e R s m args below meth c H locs cells slots Q (F0 m (pc + 3) ls rest)) : W p l e R s m args below meth c H locs cells slots Q (F0 m pc ls (.ref a :: rest)) :=
  W.objInit hexec hb hown (hts _ hlink) (hts _ hinst) (hts _ hcode) rfl hsize rfl hdg hframes (by show 2 * 0 + _ + _ ≤ _; omega) kk
end ALC

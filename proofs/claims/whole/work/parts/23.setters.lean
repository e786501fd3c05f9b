/-! copies of rows of numbers; what a World is when one of its parts has changed -/
section CPY
variable {p : Program} {l : Launch} {e : Env} {R : Room} {s : State} {m : MethodId} {args : Array Value} {below : List Frame} {meth : Method} {c : Code} {H : Heap} {locs : List Loc} {cells slots : Nat} {Q : State → Prop}
variable {cc : ByteArray} {pc : Nat} {ls : Array Slot} {rest : List Value}
theorem arr_eq {cI : ClassId} {N : Nat} {f g : Nat → Value} (h : ∀ j : Nat, j < N → f j = g j) : arrV cI N f = arrV cI N g := by
  have e : (fun j : Fin N => f j.val) = fun j : Fin N => g j.val := funext fun j => h j.val j.isLt
  unfold arrV
  rw [e]
theorem iA.ext {G : GG} {k a n : Nat} {f g : Nat → Int32} {H : Heap} (h : iA G k a n f H) (hfg : ∀ j : Nat, j < n → f j = g j) : iA G k a n g H := by
  have e : vp_cell (G.2 k) (n, .inl f) = vp_cell (G.2 k) (n, .inl g) := by
    rw [vp_cell_i, vp_cell_i]
    exact arr_eq (fun j hj => by rw [hfg j hj])
  show H[a]? = some (vp_cell (G.2 k) (n, .inl g))
  rw [← e]
  exact h
theorem w_copy {G : GG} {A : Nat → Prop} {H0 : Heap} {k : Nat} {ty : FieldType} (hexec : p.tables.exec = Jvm.exec) (hb : c.code = cc) (hml : c.maxLocals = ls.size) {own : String} {index : Nat} {Ts : List Cond} (hts : ∀ w ∈ Ts, w.before args s = true) (hown : s.vm.findClass own = some m.cls) (hlink : Cond.methodLink own index arraycopyName ∈ Ts) (hnat : Cond.native arraycopyName ∈ Ts) (hstat : Cond.static arraycopyName ∈ Ts) (hini : Cond.initialized "java/lang/System" ∈ Ts)
    (hK : gK G s) (hty : (gT G)[k]? = some (G.2 k, ty)) (hprim : refKind ty = false) (hS : wS A H0 H locs) {a a0 n0 n1 : Nat} {f g : Nat → Int32} (hA : A a) (hat0 : iA G k a0 n0 f H) (hat1 : iA G k a n1 g H)
    {n : Int32} {nn9 : Nat} (hn : n = nI nn9) (hn2 : nn9 < 2 ^ 31) (h4 : nn9 ≤ n0) (h5 : n1 = nn9) (hfit : ∀ i, i < nn9 → fits ty (.int (f i)) = true)
    (hframes : 1 ≤ R.frames) (hlocals : (rest.map fun v => v.category).sum + (nativeFrameWords "java/lang/System" "arraycopy" 5 + 11) ≤ R.locals) (hdg : decode cc pc = .ok (.invokestatic index, 3))
    (kk : ∀ (H1 : Heap) (locs1 : List Loc), iA G k a n1 f H1 → (∀ q : Nat, q ≠ a → H1[q]? = H[q]?) → wS A H0 H1 locs1 → W p l e R s m args below meth c H1 locs1 cells slots Q (F0 m (pc + 3) ls rest)) : W p l e R s m args below meth c H locs cells slots Q (F0 m pc ls (.int n :: .int 0 :: .ref a :: .int 0 :: .ref a0 :: rest)) := by
  subst hn
  replace h5 := h5.symm
  subst h5
  have h1 : ¬ (0 : Int32) < 0 := by decide
  have h3 : ¬ nI nn9 < 0 := nI_pos hn2
  have hz : (0 : Int32).toNatClampNeg = 0 := rfl
  have hc : (nI nn9).toNatClampNeg = nn9 := nI_clamp hn2
  have nn : ∀ z : Int32, ¬ z < 0 → z.toInt = (z.toNatClampNeg : Int) := by
    intro z hz
    have hz0 : (0 : Int) ≤ z.toInt := by
      have := Int32.not_lt.mp hz
      simpa using Int32.le_iff_toInt_le.mp this
    show z.toInt = ((z.toInt.toNat : Nat) : Int)
    omega
  intro T hT X
  have hc0 : H[a0]? = some (vp_cell (G.2 k) (n0, .inl f)) := hat0
  have hc1 : H[a]? = some (vp_cell (G.2 k) (nn9, .inl g)) := hat1
  obtain ⟨-, k0, hk0, cm0, hkk0⟩ := (hK.1.2 k _ hty).1 n0 (fun j => .int (f j))
  obtain ⟨-, k1, hk1, cm1, hkk1⟩ := (hK.1.2 k _ hty).1 nn9 (fun j => .int (g j))
  obtain ⟨vm', X', step⟩ := X.arraycopy hexec hown (hts _ hlink) (hts _ hnat) (hts _ hstat) (hts _ hini) (src := a0) (dst := a) (cs := vp_cell (G.2 k) (n0, .inl f)) (cd := vp_cell (G.2 k) (nn9, .inl g)) (srcPos := 0) (destPos := 0) (n := nI nn9) (by rw [hT]; exact hc0) (by rw [hT]; exact hc1)
    (fun _ h => by cases h) (fun _ h => by cases h) (fun h => by cases h) (fun h => by cases h) hk0 hk1 hkk0 hkk1 (by simp [hprim]) h1 h1 h3
    (by rw [nn 0 h1, nn _ h3, hz, hc]; show ¬ _ > ((arrV (G.2 k) n0 (fun j => .int (f j))).slots.size : Int); rw [arrV_size]; omega)
    (by rw [nn 0 h1, nn _ h3, hz, hc]; show ¬ _ > ((arrV (G.2 k) nn9 (fun j => .int (g j))).slots.size : Int); rw [arrV_size]; omega)
    (fun vm₁ _ i hi => by
      rw [hc] at hi
      have e : (vp_cell (G.2 k) (n0, .inl f)).slots.getD ((0 : Int32).toNatClampNeg + i) .null = .int (f i) := by
        rw [hz, Nat.zero_add]
        show (arrV (G.2 k) n0 (fun j => .int (f j))).slots.getD _ _ = _
        rw [Array.getD_eq_getD_getElem?, arrV_read _ _ (by omega)]
        rfl
      refine ⟨?_, ?_⟩
      · rw [e]
        exact hfit i hi
      · rw [e]
        exact trivial)
    (g := F0 m pc ls (.int (nI nn9) :: .int 0 :: .ref a :: .int 0 :: .ref a0 :: rest)) rfl (by rw [hml]) (rest := rest) rfl (by rw [hb]; exact hdg) hframes (by show 2 * 0 + _ + _ ≤ _; omega)
  have e1 : copied (vp_cell (G.2 k) (n0, .inl f)) (vp_cell (G.2 k) (nn9, .inl g)) 0 0 (nI nn9) = vp_cell (G.2 k) (nn9, .inl (va_cpy f g (0 : Int32).toNatClampNeg (0 : Int32).toNatClampNeg (nI nn9).toNatClampNeg)) := va_copied (fun z => .int z) (G.2 k) (G.2 k) f g (by rw [hz, hc]; omega)
  rw [e1] at X' step
  have hl : a < H.size := (Array.getElem?_eq_some_iff.mp hc1).1
  have hheap : ((T.setVm vm').setCell a (vp_cell (G.2 k) (nn9, .inl (va_cpy f g (0 : Int32).toNatClampNeg (0 : Int32).toNatClampNeg (nI nn9).toNatClampNeg)))).heap = H.setIfInBounds a (vp_cell (G.2 k) (nn9, .inl (va_cpy f g (0 : Int32).toNatClampNeg (0 : Int32).toNatClampNeg (nI nn9).toNatClampNeg))) := by rw [← hT]; rfl
  have oq : ∀ q : Nat, q ≠ a → (H.setIfInBounds a (vp_cell (G.2 k) (nn9, .inl (va_cpy f g (0 : Int32).toNatClampNeg (0 : Int32).toNatClampNeg (nI nn9).toNatClampNeg))))[q]? = H[q]? := fun q hq => by simp [Array.getElem?_setIfInBounds, Ne.symm hq]
  have hnew : iA G k a nn9 (va_cpy f g (0 : Int32).toNatClampNeg (0 : Int32).toNatClampNeg (nI nn9).toNatClampNeg) (H.setIfInBounds a (vp_cell (G.2 k) (nn9, .inl (va_cpy f g (0 : Int32).toNatClampNeg (0 : Int32).toNatClampNeg (nI nn9).toNatClampNeg)))) := by
    show (H.setIfInBounds a _)[a]? = some _
    simp [Array.getElem?_setIfInBounds, hl]
  obtain ⟨t, a1, b1⟩ := kk _ _ (hnew.ext (fun j hj => by rw [hz, hc]; exact sb_cpy0 hj)) oq ⟨by simp; exact hS.1, fun q g2 => by
      rw [oq q (fun e => g2 (by rw [e]; exact hA))]
      exact hS.2.1 q g2, fun q hq => by
      rcases List.mem_append.mp hq with h | h
      · exact hS.2.2 q h
      · obtain ⟨z, -, hz⟩ := List.mem_map.mp h
        rw [← hz]
        exact hA⟩ _ hheap X'
  exact ⟨t, step t a1, b1⟩
end CPY
abbrev wSetCh (w : WT) (y : RwT) : WT := (y, w.2)
abbrev wSetAs (w : WT) (y : RwT) : WT := (w.1, y, w.2.2)
abbrev wSetAn (w : WT) (y : RwT) : WT := (w.1, w.2.1, y, w.2.2.2)
abbrev wSetTp (w : WT) (y : TpT) : WT := (w.1, w.2.1, w.2.2.1, y, w.2.2.2.2)
abbrev wSetLw (w : WT) (i : Nat) (y : LawT) : WT := (w.1, w.2.1, w.2.2.1, w.2.2.2.1, (fun j => if j = i then y else wLw w j), w.2.2.2.2.2)
abbrev wSetLc (w : WT) (n : Nat) : WT := (w.1, w.2.1, w.2.2.1, w.2.2.2.1, w.2.2.2.2.1, n)
/-- a World's fifty cells are apart -/
def wN (ad : Nat → Nat) : Prop := ∀ i j : Nat, i < 50 → j < 50 → i ≠ j → ad i ≠ ad j
def wA (ad : Nat → Nat) : Nat → Prop := fun q => ∃ i : Nat, i < 50 ∧ q = ad i
theorem wA.in (ad : Nat → Nat) (i : Nat) (h : i < 50) : wA ad (ad i) := ⟨i, h, rfl⟩
theorem WAt.parts {G : GG} {ad : Nat → Nat} {w : WT} {H H1 : Heap} (hN : wN ad) (h : WAt G ad w H) (lo hi : Nat) (hh : hi ≤ 50) (hq : ∀ q : Nat, (∀ j, lo ≤ j → j < hi → q ≠ ad j) → H1[q]? = H[q]?) : ∀ j, j < 50 → (j < lo ∨ hi ≤ j) → H1[ad j]? = H[ad j]? :=
  fun j hj ho => hq _ (fun i h1 h2 => hN j i hj (by omega) (by omega))
theorem WAt.setCh {G : GG} {ad : Nat → Nat} {w : WT} {y : RwT} {H H1 : Heap} (h : WAt G ad w H) (hN : wN ad) (hy : RwAt G (ad 1) (ad 2) 8 5 y H1) (hq : ∀ q : Nat, ¬ (q = ad 1 ∨ q = ad 2) → H1[q]? = H[q]?) : WAt G ad (wSetCh w y) H1 := by
  have k := h.parts hN 1 3 (by decide) (fun q z => hq q (fun e => e.elim (z 1 (by decide) (by decide)) (z 2 (by decide) (by decide))))
  obtain ⟨h1, h2, h3, h4, h5, ⟨q, h6, h6b⟩, h7, h8⟩ := h
  exact ⟨h1.kept (k 0 (by decide) (by decide)), hy, h3.kept (k 3 (by decide) (by decide)) (k 4 (by decide) (by decide)), h4.kept (k 5 (by decide) (by decide)) (k 6 (by decide) (by decide)), h5.kept (k 7 (by decide) (by decide)) (k 8 (by decide) (by decide)), ⟨q, h6.kept (k 9 (by decide) (by decide)), h6b⟩, fun i hi => (h7 i hi).kept (fun j hj => k (10 + 5 * i + j) (by omega) (by omega)), h8⟩
theorem WAt.setAs {G : GG} {ad : Nat → Nat} {w : WT} {y : RwT} {H H1 : Heap} (h : WAt G ad w H) (hN : wN ad) (hy : RwAt G (ad 3) (ad 4) 16 7 y H1) (hq : ∀ q : Nat, ¬ (q = ad 3 ∨ q = ad 4) → H1[q]? = H[q]?) : WAt G ad (wSetAs w y) H1 := by
  have k := h.parts hN 3 5 (by decide) (fun q z => hq q (fun e => e.elim (z 3 (by decide) (by decide)) (z 4 (by decide) (by decide))))
  obtain ⟨h1, h2, h3, h4, h5, ⟨q, h6, h6b⟩, h7, h8⟩ := h
  exact ⟨h1.kept (k 0 (by decide) (by decide)), h2.kept (k 1 (by decide) (by decide)) (k 2 (by decide) (by decide)), hy, h4.kept (k 5 (by decide) (by decide)) (k 6 (by decide) (by decide)), h5.kept (k 7 (by decide) (by decide)) (k 8 (by decide) (by decide)), ⟨q, h6.kept (k 9 (by decide) (by decide)), h6b⟩, fun i hi => (h7 i hi).kept (fun j hj => k (10 + 5 * i + j) (by omega) (by omega)), h8⟩
theorem WAt.setAn {G : GG} {ad : Nat → Nat} {w : WT} {y : RwT} {H H1 : Heap} (h : WAt G ad w H) (hN : wN ad) (hy : RwAt G (ad 5) (ad 6) 40 5 y H1) (hq : ∀ q : Nat, ¬ (q = ad 5 ∨ q = ad 6) → H1[q]? = H[q]?) : WAt G ad (wSetAn w y) H1 := by
  have k := h.parts hN 5 7 (by decide) (fun q z => hq q (fun e => e.elim (z 5 (by decide) (by decide)) (z 6 (by decide) (by decide))))
  obtain ⟨h1, h2, h3, h4, h5, ⟨q, h6, h6b⟩, h7, h8⟩ := h
  exact ⟨h1.kept (k 0 (by decide) (by decide)), h2.kept (k 1 (by decide) (by decide)) (k 2 (by decide) (by decide)), h3.kept (k 3 (by decide) (by decide)) (k 4 (by decide) (by decide)), hy, h5.kept (k 7 (by decide) (by decide)) (k 8 (by decide) (by decide)), ⟨q, h6.kept (k 9 (by decide) (by decide)), h6b⟩, fun i hi => (h7 i hi).kept (fun j hj => k (10 + 5 * i + j) (by omega) (by omega)), h8⟩
theorem WAt.setTp {G : GG} {ad : Nat → Nat} {w : WT} {y : TpT} {H H1 : Heap} (h : WAt G ad w H) (hN : wN ad) (hy : TpAt G (ad 7) (ad 8) y H1) (hq : ∀ q : Nat, ¬ (q = ad 7 ∨ q = ad 8) → H1[q]? = H[q]?) : WAt G ad (wSetTp w y) H1 := by
  have k := h.parts hN 7 9 (by decide) (fun q z => hq q (fun e => e.elim (z 7 (by decide) (by decide)) (z 8 (by decide) (by decide))))
  obtain ⟨h1, h2, h3, h4, h5, ⟨q, h6, h6b⟩, h7, h8⟩ := h
  exact ⟨h1.kept (k 0 (by decide) (by decide)), h2.kept (k 1 (by decide) (by decide)) (k 2 (by decide) (by decide)), h3.kept (k 3 (by decide) (by decide)) (k 4 (by decide) (by decide)), h4.kept (k 5 (by decide) (by decide)) (k 6 (by decide) (by decide)), hy, ⟨q, h6.kept (k 9 (by decide) (by decide)), h6b⟩, fun i hi => (h7 i hi).kept (fun j hj => k (10 + 5 * i + j) (by omega) (by omega)), h8⟩
theorem WAt.setLc {G : GG} {ad : Nat → Nat} {w : WT} {n : Nat} {H H1 : Heap} (h : WAt G ad w H) (hN : wN ad) (hn : n ≤ 8) (hy : oA G (ad 0) 4 [.ref (ad 1), .ref (ad 3), .ref (ad 5), .ref (ad 7), .ref (ad 9), .int (nI n)] H1) (hq : ∀ q : Nat, q ≠ ad 0 → H1[q]? = H[q]?) : WAt G ad (wSetLc w n) H1 := by
  have k := h.parts hN 0 1 (by decide) (fun q z => hq q (z 0 (by decide) (by decide)))
  obtain ⟨h1, h2, h3, h4, h5, ⟨q, h6, h6b⟩, h7, h8⟩ := h
  exact ⟨hy, h2.kept (k 1 (by decide) (by decide)) (k 2 (by decide) (by decide)), h3.kept (k 3 (by decide) (by decide)) (k 4 (by decide) (by decide)), h4.kept (k 5 (by decide) (by decide)) (k 6 (by decide) (by decide)), h5.kept (k 7 (by decide) (by decide)) (k 8 (by decide) (by decide)), ⟨q, h6.kept (k 9 (by decide) (by decide)), h6b⟩, fun i hi => (h7 i hi).kept (fun j hj => k (10 + 5 * i + j) (by omega) (by omega)), hn⟩
theorem WAt.setLw {G : GG} {ad : Nat → Nat} {w : WT} {y : LawT} {i : Nat} {H H1 : Heap} (h : WAt G ad w H) (hN : wN ad) (hi : i < 8) (hy : LwAt G (fun j => ad (10 + 5 * i + j)) y H1) (hq : ∀ q : Nat, ¬ lwA (fun j => ad (10 + 5 * i + j)) q → H1[q]? = H[q]?) : WAt G ad (wSetLw w i y) H1 := by
  have k := h.parts hN (10 + 5 * i) (10 + 5 * i + 5) (by omega) (fun q z => hq q (fun ⟨j, hj, e⟩ => z (10 + 5 * i + j) (by omega) (by omega) e))
  obtain ⟨h1, h2, h3, h4, h5, ⟨q, h6, h6b⟩, h7, h8⟩ := h
  refine ⟨h1.kept (k 0 (by decide) (by omega)), h2.kept (k 1 (by decide) (by omega)) (k 2 (by decide) (by omega)), h3.kept (k 3 (by decide) (by omega)) (k 4 (by decide) (by omega)), h4.kept (k 5 (by decide) (by omega)) (k 6 (by decide) (by omega)), h5.kept (k 7 (by decide) (by omega)) (k 8 (by decide) (by omega)), ⟨q, h6.kept (k 9 (by decide) (by omega)), h6b⟩, fun j hj => ?_, h8⟩
  show LwAt G _ (if j = i then y else wLw w j) H1
  by_cases e : j = i
  · subst e
    rw [if_pos rfl]
    exact hy
  · rw [if_neg e]
    exact (h7 j hj).kept (fun t ht => k (10 + 5 * j + t) (by omega) (by omega))

/-! the whole system of the class: AD 0 itself, AD 1 its Acts, AD 2 their bodies; ad the World that is now, td the one that was taken -/
def CAt (G : GG) (AD ad td : Nat → Nat) (wd wt : WT) (tk : Bool) (rn : Int32) (bo : Nat → Int32) (H : Heap) : Prop := oA G (AD 0) 5 [.ref (ad 0), .ref (td 0), .int (b2i tk), .ref (AD 1)] H ∧ WAt G ad wd H ∧ WAt G td wt H ∧ oA G (AD 1) 0 [.ref (AD 2), .int rn] H ∧ iA G 1 (AD 2) 20 bo H
def cA (AD ad td : Nat → Nat) : Nat → Prop := fun q => (∃ i : Nat, i < 3 ∧ q = AD i) ∨ wA ad q ∨ wA td q
/-- all its cells are apart -/
def cN (AD ad td : Nat → Nat) : Prop := wN ad ∧ wN td ∧ (∀ i j : Nat, i < 3 → j < 3 → i ≠ j → AD i ≠ AD j) ∧ (∀ i j : Nat, i < 50 → j < 50 → ad i ≠ td j) ∧ (∀ i j : Nat, i < 3 → j < 50 → AD i ≠ ad j) ∧ (∀ i j : Nat, i < 3 → j < 50 → AD i ≠ td j)
theorem CAt.setNow {G : GG} {AD ad td : Nat → Nat} {wd wd2 wt : WT} {tk : Bool} {rn : Int32} {bo : Nat → Int32} {H H1 : Heap} (h : CAt G AD ad td wd wt tk rn bo H) (hN : cN AD ad td) (hw : WAt G ad wd2 H1) (hq : ∀ q : Nat, ¬ wA ad q → H1[q]? = H[q]?) : CAt G AD ad td wd2 wt tk rn bo H1 :=
  ⟨h.1.kept (hq _ (fun ⟨j, hj, e⟩ => hN.2.2.2.2.1 0 j (by decide) hj e)), hw, h.2.2.1.kept (fun i hi => hq _ (fun ⟨j, hj, e⟩ => hN.2.2.2.1 j i hj hi e.symm)), h.2.2.2.1.kept (hq _ (fun ⟨j, hj, e⟩ => hN.2.2.2.2.1 1 j (by decide) hj e)), h.2.2.2.2.kept (hq _ (fun ⟨j, hj, e⟩ => hN.2.2.2.2.1 2 j (by decide) hj e))⟩
theorem CAt.setTaken {G : GG} {AD ad td : Nat → Nat} {wd wt wt2 : WT} {tk : Bool} {rn : Int32} {bo : Nat → Int32} {H H1 : Heap} (h : CAt G AD ad td wd wt tk rn bo H) (hN : cN AD ad td) (hw : WAt G td wt2 H1) (hq : ∀ q : Nat, ¬ wA td q → H1[q]? = H[q]?) : CAt G AD ad td wd wt2 tk rn bo H1 :=
  ⟨h.1.kept (hq _ (fun ⟨j, hj, e⟩ => hN.2.2.2.2.2 0 j (by decide) hj e)), h.2.1.kept (fun i hi => hq _ (fun ⟨j, hj, e⟩ => hN.2.2.2.1 i j hi hj e)), hw, h.2.2.2.1.kept (hq _ (fun ⟨j, hj, e⟩ => hN.2.2.2.2.2 1 j (by decide) hj e)), h.2.2.2.2.kept (hq _ (fun ⟨j, hj, e⟩ => hN.2.2.2.2.2 2 j (by decide) hj e))⟩
theorem CAt.rest {G : GG} {AD ad td : Nat → Nat} {wd wt : WT} {tk tk2 : Bool} {rn rn2 : Int32} {bo bo2 : Nat → Int32} {H H1 : Heap} (h : CAt G AD ad td wd wt tk rn bo H) (hN : cN AD ad td) (h0 : oA G (AD 0) 5 [.ref (ad 0), .ref (td 0), .int (b2i tk2), .ref (AD 1)] H1) (h1 : oA G (AD 1) 0 [.ref (AD 2), .int rn2] H1) (h2 : iA G 1 (AD 2) 20 bo2 H1) (hq : ∀ q : Nat, ¬ (∃ i : Nat, i < 3 ∧ q = AD i) → H1[q]? = H[q]?) : CAt G AD ad td wd wt tk2 rn2 bo2 H1 :=
  ⟨h0, h.2.1.kept (fun j hj => hq _ (fun ⟨i, hi, e⟩ => hN.2.2.2.2.1 i j hi hj e.symm)), h.2.2.1.kept (fun j hj => hq _ (fun ⟨i, hi, e⟩ => hN.2.2.2.2.2 i j hi hj e.symm)), h1, h2⟩

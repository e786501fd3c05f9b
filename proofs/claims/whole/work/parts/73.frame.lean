/-! what is written leaves the rest alike -/
theorem rg_one : ∀ r ∈ mRg, ∀ r2 ∈ mRg, r.1 ≤ r2.2.1 → r2.1 ≤ r.2.1 → r = r2 := by decide
theorem mI.putR {s : Nat → Int32} (h : mI s) {lo hi : Nat} {x y : Int} (hm : (lo, hi, x, y) ∈ mRg) {j : Nat} (h1 : lo ≤ j) (h2 : j ≤ hi) {v : Int32} (hv : ib x y v) : mI (upd s j v) := h.put (fun r hr a b => by
  have e := rg_one r hr (lo, hi, x, y) hm (show r.1 ≤ hi by omega) (show lo ≤ r.2.1 by omega)
  rw [e]
  exact hv)
theorem wfGo_cg {s s2 : Nat → Int32} : ∀ n k d : Nat, k + n ≤ 2000 → (∀ j, k ≤ j → j < k + n → s2 j = s j) → (wfGo s2 n k d ↔ wfGo s n k d)
  | 0, _, _, _, _ => Iff.rfl
  | n + 1, k, d, hb, h => by
    have e : s2 (nI k).toNatClampNeg = s (nI k).toNatClampNeg := by
      rw [nI_clamp (by omega)]
      exact h k (Nat.le_refl _) (by omega)
    have ih := fun d => wfGo_cg (s := s) (s2 := s2) n (k + 1) d (by omega) (fun j a b => h j (by omega) (by omega))
    unfold wfGo
    rw [e]
    simp only [ih]
theorem wfL_cg {s s2 : Nat → Int32} {l : Nat} (hl : l < 8) (hI : mI s) (h : ∀ j, 786 ≤ j → j < 1914 → s2 j = s j) (hw : wfL s l) : wfL s2 l := by
  have hb : ib 0 120 (s (786 + nI l).toNatClampNeg) := mI.at (lo := 786) (hi := 793) (x := 0) (y := 120) hI (ib_add (ib_nI (n := 786) (by decide)) (ib_lit (n := l) (a := 0) (b := 7) (by omega) (by omega) (by omega)) (by decide) (by decide)) (by decide) (by decide) (by decide)
  have hc := (hb.clamp (by decide)).2
  have e1 : (786 + nI l : Int32).toNatClampNeg = 786 + l := by rw [show (786 : Int32) = nI 786 from rfl, cl2 (by omega)]
  unfold wfL at hw ⊢
  rw [e1] at hw hc ⊢
  rw [h (786 + l) (by omega) (by omega)]
  exact (wfGo_cg _ _ 0 (by omega) (fun j a b => h j (by omega) (by omega))).mpr hw
theorem mJ_hi {s s2 : Nat → Int32} (hJ : mJ s) (hI : mI s2) (h3 : s2 3 = s 3) (h : ∀ j, 546 ≤ j → j < 1914 → s2 j = s j) (hQ : mQ s2) : mJ s2 := by
  refine ⟨hI, fun i hi => ?_, fun l hl => ?_, hQ⟩
  · have := hJ.2.1 i hi
    rw [h _ (by omega) (by omega), h _ (by omega) (by omega)]
    exact this
  · rw [h3] at hl
    have h8 : ib 0 8 (s 3) := hJ.1 3 (3, 3, 0, 8) (by decide) (Nat.le_refl _) (Nat.le_refl _)
    have h8 := h8.2
    exact wfL_cg (by omega) hJ.1 (fun j a b => h j (by omega) b) (hJ.2.2.1 l hl)
theorem lRel_cg {x : LawT} {s s2 : Nat → Int32} {l : Nat} (hl : l < 8) (hr : lRel x s l) (h : ∀ j, 482 ≤ j → j < 1914 → s2 j = s j) : lRel x s2 l := by
  obtain ⟨a1, a2, a3, a4, a5, ⟨a6, a7⟩, a8, ⟨a9, a10⟩, a11⟩ := hr
  refine ⟨a1, ?_, ?_, ?_, fun k hk => ?_, ⟨?_, a7⟩, fun i hi j hj => ?_, ⟨?_, a10⟩, fun i hi => ?_⟩
  · rw [h _ (by omega) (by omega)]; exact a2
  · rw [h _ (by omega) (by omega)]; exact a3
  · rw [h _ (by omega) (by omega)]; exact a4
  · rw [h _ (by omega) (by omega)]; exact a5 k hk
  · rw [h _ (by omega) (by omega)]; exact a6
  · rw [h _ (by omega) (by omega)]; exact a8 i hi j hj
  · rw [h _ (by omega) (by omega)]; exact a9
  · rw [h _ (by omega) (by omega)]; exact a11 i hi
/-- the same world, the same row: what a world says but for one of its parts -/
theorem Rl.cg {wd w2 : WT} {s s2 : Nat → Int32} (h : Rl wd s) (e1 : wCh w2 = wCh wd) (e2 : wAs w2 = wAs wd) (e3 : wAn w2 = wAn wd) (e4 : wLc w2 = wLc wd) (e5 : (wTp w2).1 = (wTp wd).1) (e6 : ∀ i, i < (wTp wd).1 → (wTp w2).2.2 i = (wTp wd).2.2 i) (e7 : ∀ l, l < wLc wd → wLw w2 l = wLw wd l) (hs : ∀ j, j < 1914 → s2 j = s j) : Rl w2 s2 := by
  have c0 := h.c0
  have c1 := h.c1
  have c2 := h.c2
  have c3 := h.c3
  have c4 := h.c4
  unfold Rl
  rw [e1, e2, e3, e4, e5]
  refine ⟨⟨?_, c0.2⟩, ⟨?_, c1.2⟩, ⟨?_, c2.2⟩, ⟨?_, c3.2⟩, ⟨?_, c4.2⟩, fun c hc => ⟨?_, fun k hk => ?_⟩, fun a ha j hj => ?_, fun a ha j hj => ?_, fun l hl => ?_, fun i hi => ?_⟩
  · rw [hs _ (by decide)]; exact c0.1
  · rw [hs _ (by decide)]; exact c1.1
  · rw [hs _ (by decide)]; exact c2.1
  · rw [hs _ (by decide)]; exact c3.1
  · rw [hs _ (by decide)]; exact c4.1
  · rw [hs _ (by omega)]; exact (h.ch hc).1
  · rw [hs _ (by omega)]; exact (h.ch hc).2 k hk
  · rw [hs _ (by omega)]; exact h.as ha hj
  · rw [hs _ (by omega)]; exact h.an ha hj
  · rw [e7 l hl]
    exact lRel_cg (by omega) (h.lw hl) (fun j _ b => hs j b)
  · rw [hs _ (by omega), e6 i hi]; exact h.tp hi
/-- one put, as a number -/
theorem g_put_n {nw n r c : Nat} {f : Nat → Int32} {v : Int32} (hn : n ≤ 1000) (hr : r < n) (hw : nw ≤ 8) (hc : c < nw) : g_put nw (n, f) (nI r) (nI c) v = (n, upd f (nw * r + c) v) := by
  unfold g_put
  have hb : r * nw ≤ 1000 * 8 := Nat.mul_le_mul (by omega) hw
  rw [if_neg (nI_pos (by omega)), if_neg (nI_ge hr (by omega)), if_neg (nI_pos (by omega)), if_neg (nI_ge hc (by omega)), pk_mul, nI_add, nI_clamp (by omega), Nat.mul_comm r nw]
theorem add_n {nm n : Nat} {f : Nat → Int32} (h : n < nm) (hm : nm ≤ 1000) : g_add nm (n, f) = (n + 1, f) ∧ f_add nm (n, f) = nI n := by
  unfold g_add f_add
  exact ⟨by rw [if_pos (nI_lt h (by omega))], by rw [if_pos (nI_lt h (by omega))]⟩
theorem full_n {nm : Nat} {x : RwT} (hx : x.1 ≤ nm) (hm : nm ≤ 1000) : f_isFull nm x = true ↔ nI x.1 = nI nm := by
  unfold f_isFull
  rcases Nat.lt_or_ge x.1 nm with h | h
  · rw [if_pos (nI_lt h (by omega))]
    exact ⟨fun z => (by cases z), fun z => by have := (nI_eq (by omega) (by omega)).mp z; omega⟩
  · rw [if_neg (nI_nlt h (by omega))]
    exact ⟨fun _ => by rw [show x.1 = nm by omega], fun _ => rfl⟩
/-- ages and teaching -/
theorem Rl.setAge {wd : WT} {s : Nat → Int32} (h : Rl wd s) {c : Nat} (hc : c < (wCh wd).1) (v : Int32) : Rl (wSetCh wd ((wCh wd).1, upd (wCh wd).2 (5 * c) v)) (upd s (130 + c) v) := by
  have c0 := h.c0
  have n : ∀ j, j ≠ 130 + c → upd s (130 + c) v j = s j := fun j q => pk_un q
  refine ⟨⟨?_, c0.2⟩, ⟨?_, h.c1.2⟩, ⟨?_, h.c2.2⟩, ⟨?_, h.c3.2⟩, ⟨?_, h.c4.2⟩, fun d hd => ⟨?_, fun k hk => ?_⟩, fun a ha j hj => ?_, fun a ha j hj => ?_, fun l hl => ?_, fun i hi => ?_⟩
  · rw [n _ (by omega)]; exact c0.1
  · rw [n _ (by omega)]; exact h.c1.1
  · rw [n _ (by omega)]; exact h.c2.1
  · rw [n _ (by omega)]; exact h.c3.1
  · rw [n _ (by omega)]; exact h.c4.1
  · show upd (wCh wd).2 (5 * c) v (5 * d) = _
    by_cases q : d = c
    · subst q; rw [pk_us, pk_us]
    · rw [pk_un (by omega), n _ (by omega)]; exact (h.ch hd).1
  · show tR (upd (wCh wd).2 (5 * c) v (5 * d + 1 + k)) _
    have hd : d < (wCh wd).1 := hd
    rw [pk_un (by omega), n _ (by omega)]; exact (h.ch hd).2 k hk
  · have c1 := h.c1.2
    have ha : a < (wAs wd).1 := ha
    rw [n _ (by omega)]; exact h.as ha hj
  · have ha : a < (wAn wd).1 := ha
    have c2 := h.c2.2
    rw [n _ (by omega)]; exact h.an ha hj
  · exact lRel_cg (by have := h.c3.2; have hl : l < wLc wd := hl; omega) (h.lw hl) (fun j a _ => n j (by omega))
  · have hi : i < (wTp wd).1 := hi
    have c4 := h.c4.2
    rw [n _ (by omega)]; exact h.tp hi
theorem Rl.setTaught {wd : WT} {s : Nat → Int32} (h : Rl wd s) {c k : Nat} (hc : c < (wCh wd).1) (hk : k < 4) {v : Int32} (hv : ib 0 120 v) : Rl (wSetCh wd ((wCh wd).1, upd (wCh wd).2 (5 * c + (1 + k)) v)) (upd s (138 + 4 * c + k) v) := by
  have c0 := h.c0
  have n : ∀ j, j ≠ 138 + 4 * c + k → upd s (138 + 4 * c + k) v j = s j := fun j q => pk_un q
  refine ⟨⟨?_, c0.2⟩, ⟨?_, h.c1.2⟩, ⟨?_, h.c2.2⟩, ⟨?_, h.c3.2⟩, ⟨?_, h.c4.2⟩, fun d hd => ⟨?_, fun i hi => ?_⟩, fun a ha j hj => ?_, fun a ha j hj => ?_, fun l hl => ?_, fun i hi => ?_⟩
  · rw [n _ (by omega)]; exact c0.1
  · rw [n _ (by omega)]; exact h.c1.1
  · rw [n _ (by omega)]; exact h.c2.1
  · rw [n _ (by omega)]; exact h.c3.1
  · rw [n _ (by omega)]; exact h.c4.1
  · show upd (wCh wd).2 (5 * c + (1 + k)) v (5 * d) = _
    have hd : d < (wCh wd).1 := hd
    rw [pk_un (by omega), n _ (by omega)]; exact (h.ch hd).1
  · show tR (upd (wCh wd).2 (5 * c + (1 + k)) v (5 * d + 1 + i)) _
    have hd : d < (wCh wd).1 := hd
    by_cases q : d = c ∧ i = k
    · obtain ⟨rfl, rfl⟩ := q
      rw [show 5 * d + 1 + i = 5 * d + (1 + i) by omega, pk_us, pk_us]
      exact .inr ⟨rfl, hv⟩
    · rw [pk_un (by omega), n _ (by omega)]; exact (h.ch hd).2 i hi
  · have c1 := h.c1.2
    have ha : a < (wAs wd).1 := ha
    rw [n _ (by omega)]; exact h.as ha hj
  · have ha : a < (wAn wd).1 := ha
    have c2 := h.c2.2
    rw [n _ (by omega)]; exact h.an ha hj
  · exact lRel_cg (by have := h.c3.2; have hl : l < wLc wd := hl; omega) (h.lw hl) (fun j a _ => n j (by omega))
  · have hi : i < (wTp wd).1 := hi
    have c4 := h.c4.2
    rw [n _ (by omega)]; exact h.tp hi
theorem mJ.age {s : Nat → Int32} (h : mJ s) {c : Nat} (hc : c < 8) {v : Int32} (hv : ib 0 120 v) : mJ (upd s (130 + c) v) := by
  have n : ∀ j, j ≠ 130 + c → upd s (130 + c) v j = s j := fun j q => pk_un q
  refine mJ_hi h (h.1.putR (lo := 130) (hi := 137) (x := 0) (y := 120) (by decide) (by omega) (by omega) hv) (n _ (by omega)) (fun j a _ => n j (by omega)) (fun t ht => ?_)
  rw [n 2 (by omega)] at ht
  have h40 : ib 0 40 (s 2) := h.1 2 (2, 2, 0, 40) (by decide) (Nat.le_refl _) (Nat.le_refl _)
  have h40 := h40.2
  rw [n (282 + t) (by omega), n 0 (by omega), n (322 + t) (by omega), n 1 (by omega)]
  exact h.2.2.2 t ht
theorem mJ.taught {s : Nat → Int32} (h : mJ s) {c k : Nat} (hc : c < 8) (hk : k < 4) {v : Int32} (hv : ib (-1) 120 v) : mJ (upd s (138 + 4 * c + k) v) := by
  have n : ∀ j, j ≠ 138 + 4 * c + k → upd s (138 + 4 * c + k) v j = s j := fun j q => pk_un q
  refine mJ_hi h (h.1.putR (lo := 138) (hi := 169) (x := -1) (y := 120) (by decide) (by omega) (by omega) hv) (n _ (by omega)) (fun j a _ => n j (by omega)) (fun t ht => ?_)
  rw [n 2 (by omega)] at ht
  have h40 : ib 0 40 (s 2) := h.1 2 (2, 2, 0, 40) (by decide) (Nat.le_refl _) (Nat.le_refl _)
  have h40 := h40.2
  rw [n (282 + t) (by omega), n 0 (by omega), n (322 + t) (by omega), n 1 (by omega)]
  exact h.2.2.2 t ht

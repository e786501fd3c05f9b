/-! feed, image, undo: alike, and what they leave is alike -/
theorem byte_eq (V : Int64) : V.toInt32.toInt8.toInt32 &&& 255 = (V &&& 255).toInt32 := by
  apply Int32.toBitVec_inj.mp
  apply BitVec.eq_of_getLsbD_eq
  intro i hi
  have m32 : ∀ i, i < 32 → ((255 : Int32).toBitVec).getLsbD i = decide (i < 8) := by decide
  have m64 : ∀ i, i < 64 → ((255 : Int64).toBitVec).getLsbD i = decide (i < 8) := by decide
  have m32 := m32 i hi
  have m64 := m64 i (by omega)
  generalize (255 : Int32) = a at m32 ⊢
  generalize (255 : Int64) = b at m64 ⊢
  have h64 : i < 64 := by omega
  simp only [Int32.toBitVec_and, Int64.toBitVec_and, BitVec.getLsbD_and, Int8.toBitVec_toInt32, Int32.toBitVec_toInt8, Int64.toBitVec_toInt32, BitVec.getLsbD_signExtend, m32, m64]
  by_cases q : i < 8
  · simp [q, hi, h64]
  · simp [q, hi, h64]
theorem byte_ib (V : Int64) : ib 0 255 ((V &&& 255).toInt32) := by
  rw [← byte_eq]
  obtain ⟨j, hj, e⟩ := pk_andE (V.toInt32.toInt8.toInt32) (m := 255) 8 (by decide)
  rw [e]
  exact ib_lit (by omega) (by omega) (by omega)
theorem Rl.tape {wd : WT} {s s2 : Nat → Int32} (h : Rl wd s) {z pl : Nat} {f : Nat → Int32} (hz : s2 4 = nI z) (h120 : z ≤ 120) (hn : ∀ j, j ≠ 4 → (j < 10 ∨ 130 ≤ j) → s2 j = s j) (hf : ∀ i, i < z → f i &&& 255 = s2 (10 + i)) : Rl (wSetTp wd (z, pl, f)) s2 := by
  have c1 := h.c1.2
  have c2 := h.c2.2
  refine ⟨⟨?_, h.c0.2⟩, ⟨?_, h.c1.2⟩, ⟨?_, h.c2.2⟩, ⟨?_, h.c3.2⟩, ⟨hz, h120⟩, fun d hd => ⟨?_, fun k hk => ?_⟩, fun a ha j hj => ?_, fun a ha j hj => ?_, fun l hl => ?_, fun i hi => hf i hi⟩
  · rw [hn 0 (by decide) (by omega)]; exact h.c0.1
  · rw [hn 1 (by decide) (by omega)]; exact h.c1.1
  · rw [hn 2 (by decide) (by omega)]; exact h.c2.1
  · rw [hn 3 (by decide) (by omega)]; exact h.c3.1
  · rw [hn _ (by omega) (by omega)]; exact (h.ch hd).1
  · rw [hn _ (by omega) (by omega)]; exact (h.ch hd).2 k hk
  · rw [hn _ (by omega) (by omega)]; exact h.as ha hj
  · rw [hn _ (by omega) (by omega)]; exact h.an ha hj
  · exact lRel_cg (by have := h.c3.2; have hl : l < wLc wd := hl; omega) (h.lw hl) (fun j a _ => hn j (by omega) (by omega))
theorem mJ.tape {s s2 : Nat → Int32} (h : mJ s) (hI : mI s2) (hn : ∀ j, j ≠ 4 → (j < 10 ∨ 130 ≤ j) → s2 j = s j) : mJ s2 := by
  refine mJ_hi h hI (hn 3 (by decide) (by omega)) (fun j a _ => hn j (by omega) (by omega)) (fun t ht => ?_)
  rw [hn 2 (by decide) (by omega)] at ht
  rw [hn (282 + t) (by omega) (by omega), hn 0 (by decide) (by omega), hn (322 + t) (by omega) (by omega), hn 1 (by decide) (by omega)]
  exact h.2.2.2 t ht
theorem byF.put {f : Nat → Int32} (h : byF f) (j : Nat) {v : Int32} (hv : fits .byte (.int v) = true) : byF (upd f j v) := fun i hi => by
  by_cases q : i = j
  · subst q; rw [pk_us]; exact hv
  · rw [pk_un q]; exact h i hi
theorem feed_go {wd : WT} (x : MT) (wv : Int64) (pl : Nat) : ∀ (k sz : Nat) (bt s : Nat → Int32), sz + k ≤ 120 → Rl (wSetTp wd (sz, pl, bt)) s → mJ s → byF bt → (q_appGo wv k sz bt).1 = true ∧ (r_feedGo x wv k s).1 = nI (q_appGo wv k sz bt).2.1 ∧ Rl (wSetTp wd ((q_appGo wv k sz bt).2.1, pl, (q_appGo wv k sz bt).2.2)) (r_feedGo x wv k s).2 ∧ mJ (r_feedGo x wv k s).2 ∧ byF (q_appGo wv k sz bt).2.2
  | 0, sz, bt, s, _, hR, hJ, hB => ⟨rfl, hR.c4.1, hR, hJ, hB⟩
  | k + 1, sz, bt, s, h, hR, hJ, hB => by
    have e4 : s (4 : Int32).toNatClampNeg = nI sz := hR.c4.1
    rw [q_appGo_s, r_feedGo_s, if_neg (show ¬ (120 : Int32) ≤ nI sz from nI_ge (b := 120) (by omega) (by decide)), e4, nI_clamp (by omega), pk_vb, show ((10 : Int32) + nI sz).toNatClampNeg = 10 + sz from cl2 (a := 10) (by omega)]
    generalize wv >>> ((8 * nI k : Int32).toInt64 &&& 63) = V
    have hv := byte_eq V
    have hi := byte_ib V
    generalize (V &&& 255).toInt32 = u at hv hi ⊢
    have e5 : upd s (10 + sz) u (4 : Int32).toNatClampNeg + 1 = nI (sz + 1) := by
      rw [show (4 : Int32).toNatClampNeg = 4 from rfl, pk_un (by omega), show s 4 = nI sz from e4, nI_1]
    rw [e5, show (4 : Int32).toNatClampNeg = 4 from rfl]
    have hn : ∀ j, j ≠ 4 → j ≠ 10 + sz → upd (upd s (10 + sz) u) 4 (nI (sz + 1)) j = s j := fun j a b => by rw [pk_un a, pk_un b]
    have hn2 : ∀ j, j ≠ 4 → (j < 10 ∨ 130 ≤ j) → upd (upd s (10 + sz) u) 4 (nI (sz + 1)) j = s j := fun j a b => hn j a (by omega)
    refine feed_go (wd := wd) x wv pl k (sz + 1) _ _ (by omega) ?_ ?_ (hB.put sz (pk_fb _))
    · have hr : Rl (wSetTp wd (sz + 1, pl, upd bt sz V.toInt32.toInt8.toInt32)) (upd (upd s (10 + sz) u) 4 (nI (sz + 1))) := Rl.tape (wd := wSetTp wd (sz, pl, bt)) hR (z := sz + 1) (pl := pl) (f := upd bt sz V.toInt32.toInt8.toInt32) pk_us (by omega) hn2 (fun i hi => by
        rw [pk_un (show 10 + i ≠ 4 by omega)]
        by_cases q : i = sz
        · subst q; rw [pk_us, pk_us]; exact hv
        · rw [pk_un q, pk_un (by omega)]
          exact hR.tp (show i < sz by omega))
      exact hr
    · exact hJ.tape ((hJ.1.putR (lo := 10) (hi := 129) (x := 0) (y := 255) (by decide) (by omega) (by omega) hi).putR (lo := 4) (hi := 4) (x := 0) (y := 120) (by decide) (by omega) (by omega) (ib_lit (by omega) (by omega) (by omega))) hn2
theorem eq_feed {wd : WT} {x : MT} (hJ : mJ (mS x)) (hR : Rl wd (mS x)) (hB : byF (wTp wd).2.2) (w : Int64) (n : Int32) : (s_feed wd w n).1 = (r_feed x w n).1 ∧ Rl (s_feed wd w n).2 (r_feed x w n).2 ∧ mJ (r_feed x w n).2 ∧ byF (wTp (s_feed wd w n).2).2.2 := by
  have h4 := hR.c4.2
  unfold s_feed r_feed
  by_cases p : n < 1
  · rw [if_pos p, if_neg (ge9_in1 p)]
    exact ⟨rfl, hR, hJ, hB⟩
  · rw [if_neg p]
    by_cases q : n ≤ 8
    · rw [if_pos q, if_pos (ge9_in p q)]
      obtain ⟨m, em, m1, m8⟩ := (show ib 1 8 n from ib_of p q).nI_eq (by decide)
      subst em
      rw [nI_clamp (by omega)]
      unfold q_append
      have e4 : mS x (4 : Int32).toNatClampNeg = nI (wTp wd).1 := hR.c4.1
      rw [e4, nI_add]
      by_cases z : (wTp wd).1 + m ≤ 120
      · have zz : nI ((wTp wd).1 + m) ≤ 120 := nI_le (b := 120) z (by decide)
        rw [if_pos zz, if_pos zz]
        obtain ⟨h1, h2, h3, h5, h6⟩ := feed_go (wd := wd) x w (wTp wd).2.1 m (wTp wd).1 (wTp wd).2.2 (mS x) z hR hJ hB
        generalize q_appGo w m (wTp wd).1 (wTp wd).2.2 = g at h1 h2 h3 h6 ⊢
        obtain ⟨b, zz, f⟩ := g
        have h1 : b = true := h1
        subst h1
        exact ⟨h2.symm, h3, h5, h6⟩
      · have zz : ¬ nI ((wTp wd).1 + m) ≤ 120 := nI_ge (a := 120) (by omega) (by omega)
        rw [if_neg zz, if_neg zz]
        exact ⟨rfl, hR, hJ, hB⟩
    · rw [if_neg q, if_neg (ge9_in2 p q)]
      exact ⟨rfl, hR, hJ, hB⟩
theorem copy_go (we : WT) : ∀ (n k : Nat) (wd : WT), (∀ l, l < k → wLw wd l = wLw we l) → wCh (u_copyGo we n k wd) = wCh wd ∧ wAs (u_copyGo we n k wd) = wAs wd ∧ wAn (u_copyGo we n k wd) = wAn wd ∧ wTp (u_copyGo we n k wd) = wTp wd ∧ wLc (u_copyGo we n k wd) = wLc wd ∧ ∀ l, l < k + n → wLw (u_copyGo we n k wd) l = wLw we l
  | 0, k, wd, h => ⟨rfl, rfl, rfl, rfl, rfl, h⟩
  | n + 1, k, wd, h => by
    rw [u_copyGo_s]
    obtain ⟨h1, h2, h3, h4, h5, h6⟩ := copy_go we n (k + 1) (wSetLw wd k (wLw we k)) (fun l hl => by
      show (if l = k then wLw we k else wLw wd l) = wLw we l
      by_cases q : l = k
      · rw [if_pos q, q]
      · rw [if_neg q]; exact h l (by omega))
    exact ⟨h1, h2, h3, h4, h5, fun l hl => h6 l (by omega)⟩
theorem copy_rl {wd we : WT} {s s2 : Nat → Int32} (h : Rl we s) (hs : ∀ j, j < 1914 → s2 j = s j) : Rl (u_copy wd we) s2 ∧ (wTp (u_copy wd we)).2.2 = (wTp we).2.2 ∧ (wCh (u_copy wd we)).1 = (wCh we).1 := by
  obtain ⟨h1, h2, h3, h4, h5, h6⟩ := copy_go we (wLc we) 0 (wSetLc (wSetTp (wSetAn (wSetAs (wSetCh wd (wCh we)) (wAs we)) (wAn we)) ((wTp we).1, (wTp (wSetAn (wSetAs (wSetCh wd (wCh we)) (wAs we)) (wAn we))).2.1, (wTp we).2.2)) (wLc we)) (fun l hl => absurd hl (Nat.not_lt_zero _))
  have h1 : wCh (u_copy wd we) = wCh we := h1
  have h2 : wAs (u_copy wd we) = wAs we := h2
  have h3 : wAn (u_copy wd we) = wAn we := h3
  have h5 : wLc (u_copy wd we) = wLc we := h5
  have h4 : wTp (u_copy wd we) = ((wTp we).1, (wTp wd).2.1, (wTp we).2.2) := h4
  have t1 : (wTp (u_copy wd we)).1 = (wTp we).1 := by rw [h4]
  have t2 : (wTp (u_copy wd we)).2.2 = (wTp we).2.2 := by rw [h4]
  refine ⟨h.cg h1 h2 h3 h5 t1 (fun i _ => by rw [t2]) (fun l hl => h6 l (by omega)) hs, t2, by rw [h1]⟩
theorem rg_hi : ∀ r ∈ mRg, r.2.1 < 1914 := by decide
theorem mJ.cg {s s2 : Nat → Int32} (h : mJ s) (hs : ∀ j, j < 1914 → s2 j = s j) : mJ s2 := by
  have h40 : ib 0 40 (s 2) := h.1 2 (2, 2, 0, 40) (by decide) (Nat.le_refl _) (Nat.le_refl _)
  have h40 := h40.2
  refine mJ_hi h (fun j r hr a b => ?_) (hs 3 (by decide)) (fun j _ b => hs j b) (fun t ht => ?_)
  · rw [hs j (by have := rg_hi r hr; omega)]
    exact h.1 j r hr a b
  · rw [hs 2 (by decide)] at ht
    rw [hs (282 + t) (by omega), hs 0 (by decide), hs (322 + t) (by omega), hs 1 (by decide)]
    exact h.2.2.2 t ht
theorem image_go (x : MT) : ∀ (n k : Nat) (im : Nat → Int32) (hi : Bool), k + n = 1920 → (∀ j, j < k → im j = mS x j) → (r_imageGo x n k im hi).1 = mS x 0 ∧ (r_imageGo x n k im hi).2.2 = true ∧ ∀ j, j < 1920 → (r_imageGo x n k im hi).2.1 j = mS x j
  | 0, k, im, hi, h, hk => ⟨rfl, rfl, fun j hj => hk j (by omega)⟩
  | n + 1, k, im, hi, h, hk => by
    rw [r_imageGo_s, nI_clamp (by omega)]
    exact image_go x n (k + 1) _ hi (by omega) (fun j hj => by
      by_cases q : j = k
      · subst q; exact pk_us
      · rw [pk_un q]; exact hk j (by omega))
theorem undo_go (x : MT) : ∀ (n k : Nat) (sv : Nat → Int32), k + n = 1920 → (∀ j, j < k → sv j = mIm x j) → (r_undoGo x n k sv).1 = (r_undoGo x n k sv).2 0 ∧ ∀ j, j < 1920 → (r_undoGo x n k sv).2 j = mIm x j
  | 0, k, sv, h, hk => ⟨rfl, fun j hj => hk j (by omega)⟩
  | n + 1, k, sv, h, hk => by
    rw [r_undoGo_s, nI_clamp (by omega)]
    exact undo_go x n (k + 1) _ (by omega) (fun j hj => by
      by_cases q : j = k
      · subst q; exact pk_us
      · rw [pk_un q]; exact hk j (by omega))
/-- what stands between the class's object and the reference's, before each call -/
def Inv9 (wd wt : WT) (tk : Bool) (rn : Nat) (bo : Nat → Int32) (x : MT) : Prop := Rl wd (mS x) ∧ mJ (mS x) ∧ byF (wTp wd).2.2 ∧ byF (wTp wt).2.2 ∧ tk = mHi x ∧ (tk = true → Rl wt (mIm x) ∧ mJ (mIm x)) ∧ mRa x = nI rn ∧ rn ≤ 100 ∧ trR9 rn bo (mBo x)
theorem eq_image {wd wt : WT} {tk : Bool} {rn : Nat} {bo : Nat → Int32} {x : MT} (h : Inv9 wd wt tk rn bo x) : (s_image wd wt tk).1 = (r_image x).1 ∧ Inv9 wd (s_image wd wt tk).2.1 (s_image wd wt tk).2.2 rn bo (mSetHi (mSetIm x (r_image x).2.1) (r_image x).2.2) := by
  obtain ⟨hR, hJ, hB, hB2, ht, htk, h1, h2, h3⟩ := h
  have e := image_go x 1920 0 (mIm x) (mHi x) rfl (fun j hj => absurd hj (Nat.not_lt_zero _))
  unfold r_image
  generalize r_imageGo x 1920 0 (mIm x) (mHi x) = g at e ⊢
  obtain ⟨g1, g2, g3⟩ := g
  obtain ⟨e1, e2, e3⟩ := e
  obtain ⟨c1, c2, c3⟩ := copy_rl (wd := wt) hR (s2 := g2) (fun j hj => e3 j (by omega))
  refine ⟨?_, hR, hJ, hB, ?_, ?_, fun _ => ⟨c1, ?_⟩, h1, h2, h3⟩
  · exact hR.c0.1.symm.trans e1.symm
  · show byF (wTp (u_copy wt wd)).2.2
    rw [c2]; exact hB
  · exact e2.symm
  · exact hJ.cg (fun j hj => e3 j (by omega))
theorem eq_undo {wd wt : WT} {tk : Bool} {rn : Nat} {bo : Nat → Int32} {x : MT} (h : Inv9 wd wt tk rn bo x) : (s_undo wd wt tk).1 = (r_undo x).1 ∧ Inv9 (s_undo wd wt tk).2 wt tk rn bo (mSetS x (r_undo x).2) := by
  obtain ⟨hR, hJ, hB, hB2, ht, htk, h1, h2, h3⟩ := h
  unfold s_undo r_undo
  rw [← ht]
  by_cases q : tk = true
  · rw [if_pos q, if_pos q]
    have e := undo_go x 1920 0 (mS x) rfl (fun j hj => absurd hj (Nat.not_lt_zero _))
    generalize r_undoGo x 1920 0 (mS x) = g at e ⊢
    obtain ⟨g1, g2⟩ := g
    obtain ⟨e1, e3⟩ := e
    obtain ⟨hR2, hJ2⟩ := htk q
    obtain ⟨c1, c2, c3⟩ := copy_rl (wd := wd) hR2 (s2 := g2) (fun j hj => e3 j (by omega))
    refine ⟨?_, c1, ?_, ?_, hB2, ht, htk, h1, h2, h3⟩
    · exact c1.c0.1.symm.trans e1.symm
    · exact hJ2.cg (fun j hj => e3 j (by omega))
    · show byF (wTp (u_copy wd wt)).2.2
      rw [c2]; exact hB2
  · rw [if_neg q, if_neg q]
    exact ⟨rfl, hR, hJ, hB, hB2, ht, htk, h1, h2, h3⟩

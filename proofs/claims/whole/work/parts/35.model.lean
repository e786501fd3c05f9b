/-! the reference: what it is made of -/
abbrev MT : Type := Int32 × (Nat → Int32) × (Nat → Int32) × Bool × Int32 × Int32 × Int32 × Bool × Int32 × (Nat → Int32) × (Nat → Int32) × Int64 × Int64 × (Nat → Int32) × Int32 × Int32 × Int32 × Int32
abbrev mTh (x : MT) : Int32 := x.1
abbrev mSetTh (x : MT) (v : Int32) : MT := (v, x.2.1, x.2.2.1, x.2.2.2.1, x.2.2.2.2.1, x.2.2.2.2.2.1, x.2.2.2.2.2.2.1, x.2.2.2.2.2.2.2.1, x.2.2.2.2.2.2.2.2.1, x.2.2.2.2.2.2.2.2.2.1, x.2.2.2.2.2.2.2.2.2.2.1, x.2.2.2.2.2.2.2.2.2.2.2.1, x.2.2.2.2.2.2.2.2.2.2.2.2.1, x.2.2.2.2.2.2.2.2.2.2.2.2.2.1, x.2.2.2.2.2.2.2.2.2.2.2.2.2.2.1, x.2.2.2.2.2.2.2.2.2.2.2.2.2.2.2.1, x.2.2.2.2.2.2.2.2.2.2.2.2.2.2.2.2.1, x.2.2.2.2.2.2.2.2.2.2.2.2.2.2.2.2.2)
abbrev mS (x : MT) : Nat → Int32 := x.2.1
abbrev mSetS (x : MT) (v : Nat → Int32) : MT := (x.1, v, x.2.2.1, x.2.2.2.1, x.2.2.2.2.1, x.2.2.2.2.2.1, x.2.2.2.2.2.2.1, x.2.2.2.2.2.2.2.1, x.2.2.2.2.2.2.2.2.1, x.2.2.2.2.2.2.2.2.2.1, x.2.2.2.2.2.2.2.2.2.2.1, x.2.2.2.2.2.2.2.2.2.2.2.1, x.2.2.2.2.2.2.2.2.2.2.2.2.1, x.2.2.2.2.2.2.2.2.2.2.2.2.2.1, x.2.2.2.2.2.2.2.2.2.2.2.2.2.2.1, x.2.2.2.2.2.2.2.2.2.2.2.2.2.2.2.1, x.2.2.2.2.2.2.2.2.2.2.2.2.2.2.2.2.1, x.2.2.2.2.2.2.2.2.2.2.2.2.2.2.2.2.2)
abbrev mIm (x : MT) : Nat → Int32 := x.2.2.1
abbrev mSetIm (x : MT) (v : Nat → Int32) : MT := (x.1, x.2.1, v, x.2.2.2.1, x.2.2.2.2.1, x.2.2.2.2.2.1, x.2.2.2.2.2.2.1, x.2.2.2.2.2.2.2.1, x.2.2.2.2.2.2.2.2.1, x.2.2.2.2.2.2.2.2.2.1, x.2.2.2.2.2.2.2.2.2.2.1, x.2.2.2.2.2.2.2.2.2.2.2.1, x.2.2.2.2.2.2.2.2.2.2.2.2.1, x.2.2.2.2.2.2.2.2.2.2.2.2.2.1, x.2.2.2.2.2.2.2.2.2.2.2.2.2.2.1, x.2.2.2.2.2.2.2.2.2.2.2.2.2.2.2.1, x.2.2.2.2.2.2.2.2.2.2.2.2.2.2.2.2.1, x.2.2.2.2.2.2.2.2.2.2.2.2.2.2.2.2.2)
abbrev mHi (x : MT) : Bool := x.2.2.2.1
abbrev mSetHi (x : MT) (v : Bool) : MT := (x.1, x.2.1, x.2.2.1, v, x.2.2.2.2.1, x.2.2.2.2.2.1, x.2.2.2.2.2.2.1, x.2.2.2.2.2.2.2.1, x.2.2.2.2.2.2.2.2.1, x.2.2.2.2.2.2.2.2.2.1, x.2.2.2.2.2.2.2.2.2.2.1, x.2.2.2.2.2.2.2.2.2.2.2.1, x.2.2.2.2.2.2.2.2.2.2.2.2.1, x.2.2.2.2.2.2.2.2.2.2.2.2.2.1, x.2.2.2.2.2.2.2.2.2.2.2.2.2.2.1, x.2.2.2.2.2.2.2.2.2.2.2.2.2.2.2.1, x.2.2.2.2.2.2.2.2.2.2.2.2.2.2.2.2.1, x.2.2.2.2.2.2.2.2.2.2.2.2.2.2.2.2.2)
abbrev mAc (x : MT) : Int32 := x.2.2.2.2.1
abbrev mSetAc (x : MT) (v : Int32) : MT := (x.1, x.2.1, x.2.2.1, x.2.2.2.1, v, x.2.2.2.2.2.1, x.2.2.2.2.2.2.1, x.2.2.2.2.2.2.2.1, x.2.2.2.2.2.2.2.2.1, x.2.2.2.2.2.2.2.2.2.1, x.2.2.2.2.2.2.2.2.2.2.1, x.2.2.2.2.2.2.2.2.2.2.2.1, x.2.2.2.2.2.2.2.2.2.2.2.2.1, x.2.2.2.2.2.2.2.2.2.2.2.2.2.1, x.2.2.2.2.2.2.2.2.2.2.2.2.2.2.1, x.2.2.2.2.2.2.2.2.2.2.2.2.2.2.2.1, x.2.2.2.2.2.2.2.2.2.2.2.2.2.2.2.2.1, x.2.2.2.2.2.2.2.2.2.2.2.2.2.2.2.2.2)
abbrev mSp (x : MT) : Int32 := x.2.2.2.2.2.1
abbrev mSetSp (x : MT) (v : Int32) : MT := (x.1, x.2.1, x.2.2.1, x.2.2.2.1, x.2.2.2.2.1, v, x.2.2.2.2.2.2.1, x.2.2.2.2.2.2.2.1, x.2.2.2.2.2.2.2.2.1, x.2.2.2.2.2.2.2.2.2.1, x.2.2.2.2.2.2.2.2.2.2.1, x.2.2.2.2.2.2.2.2.2.2.2.1, x.2.2.2.2.2.2.2.2.2.2.2.2.1, x.2.2.2.2.2.2.2.2.2.2.2.2.2.1, x.2.2.2.2.2.2.2.2.2.2.2.2.2.2.1, x.2.2.2.2.2.2.2.2.2.2.2.2.2.2.2.1, x.2.2.2.2.2.2.2.2.2.2.2.2.2.2.2.2.1, x.2.2.2.2.2.2.2.2.2.2.2.2.2.2.2.2.2)
abbrev mEn (x : MT) : Int32 := x.2.2.2.2.2.2.1
abbrev mSetEn (x : MT) (v : Int32) : MT := (x.1, x.2.1, x.2.2.1, x.2.2.2.1, x.2.2.2.2.1, x.2.2.2.2.2.1, v, x.2.2.2.2.2.2.2.1, x.2.2.2.2.2.2.2.2.1, x.2.2.2.2.2.2.2.2.2.1, x.2.2.2.2.2.2.2.2.2.2.1, x.2.2.2.2.2.2.2.2.2.2.2.1, x.2.2.2.2.2.2.2.2.2.2.2.2.1, x.2.2.2.2.2.2.2.2.2.2.2.2.2.1, x.2.2.2.2.2.2.2.2.2.2.2.2.2.2.1, x.2.2.2.2.2.2.2.2.2.2.2.2.2.2.2.1, x.2.2.2.2.2.2.2.2.2.2.2.2.2.2.2.2.1, x.2.2.2.2.2.2.2.2.2.2.2.2.2.2.2.2.2)
abbrev mWr (x : MT) : Bool := x.2.2.2.2.2.2.2.1
abbrev mSetWr (x : MT) (v : Bool) : MT := (x.1, x.2.1, x.2.2.1, x.2.2.2.1, x.2.2.2.2.1, x.2.2.2.2.2.1, x.2.2.2.2.2.2.1, v, x.2.2.2.2.2.2.2.2.1, x.2.2.2.2.2.2.2.2.2.1, x.2.2.2.2.2.2.2.2.2.2.1, x.2.2.2.2.2.2.2.2.2.2.2.1, x.2.2.2.2.2.2.2.2.2.2.2.2.1, x.2.2.2.2.2.2.2.2.2.2.2.2.2.1, x.2.2.2.2.2.2.2.2.2.2.2.2.2.2.1, x.2.2.2.2.2.2.2.2.2.2.2.2.2.2.2.1, x.2.2.2.2.2.2.2.2.2.2.2.2.2.2.2.2.1, x.2.2.2.2.2.2.2.2.2.2.2.2.2.2.2.2.2)
abbrev mOp (x : MT) : Int32 := x.2.2.2.2.2.2.2.2.1
abbrev mSetOp (x : MT) (v : Int32) : MT := (x.1, x.2.1, x.2.2.1, x.2.2.2.1, x.2.2.2.2.1, x.2.2.2.2.2.1, x.2.2.2.2.2.2.1, x.2.2.2.2.2.2.2.1, v, x.2.2.2.2.2.2.2.2.2.1, x.2.2.2.2.2.2.2.2.2.2.1, x.2.2.2.2.2.2.2.2.2.2.2.1, x.2.2.2.2.2.2.2.2.2.2.2.2.1, x.2.2.2.2.2.2.2.2.2.2.2.2.2.1, x.2.2.2.2.2.2.2.2.2.2.2.2.2.2.1, x.2.2.2.2.2.2.2.2.2.2.2.2.2.2.2.1, x.2.2.2.2.2.2.2.2.2.2.2.2.2.2.2.2.1, x.2.2.2.2.2.2.2.2.2.2.2.2.2.2.2.2.2)
abbrev mTr (x : MT) : Nat → Int32 := x.2.2.2.2.2.2.2.2.2.1
abbrev mSetTr (x : MT) (v : Nat → Int32) : MT := (x.1, x.2.1, x.2.2.1, x.2.2.2.1, x.2.2.2.2.1, x.2.2.2.2.2.1, x.2.2.2.2.2.2.1, x.2.2.2.2.2.2.2.1, x.2.2.2.2.2.2.2.2.1, v, x.2.2.2.2.2.2.2.2.2.2.1, x.2.2.2.2.2.2.2.2.2.2.2.1, x.2.2.2.2.2.2.2.2.2.2.2.2.1, x.2.2.2.2.2.2.2.2.2.2.2.2.2.1, x.2.2.2.2.2.2.2.2.2.2.2.2.2.2.1, x.2.2.2.2.2.2.2.2.2.2.2.2.2.2.2.1, x.2.2.2.2.2.2.2.2.2.2.2.2.2.2.2.2.1, x.2.2.2.2.2.2.2.2.2.2.2.2.2.2.2.2.2)
abbrev mHe (x : MT) : Nat → Int32 := x.2.2.2.2.2.2.2.2.2.2.1
abbrev mSetHe (x : MT) (v : Nat → Int32) : MT := (x.1, x.2.1, x.2.2.1, x.2.2.2.1, x.2.2.2.2.1, x.2.2.2.2.2.1, x.2.2.2.2.2.2.1, x.2.2.2.2.2.2.2.1, x.2.2.2.2.2.2.2.2.1, x.2.2.2.2.2.2.2.2.2.1, v, x.2.2.2.2.2.2.2.2.2.2.2.1, x.2.2.2.2.2.2.2.2.2.2.2.2.1, x.2.2.2.2.2.2.2.2.2.2.2.2.2.1, x.2.2.2.2.2.2.2.2.2.2.2.2.2.2.1, x.2.2.2.2.2.2.2.2.2.2.2.2.2.2.2.1, x.2.2.2.2.2.2.2.2.2.2.2.2.2.2.2.2.1, x.2.2.2.2.2.2.2.2.2.2.2.2.2.2.2.2.2)
abbrev mAl (x : MT) : Int64 := x.2.2.2.2.2.2.2.2.2.2.2.1
abbrev mSetAl (x : MT) (v : Int64) : MT := (x.1, x.2.1, x.2.2.1, x.2.2.2.1, x.2.2.2.2.1, x.2.2.2.2.2.1, x.2.2.2.2.2.2.1, x.2.2.2.2.2.2.2.1, x.2.2.2.2.2.2.2.2.1, x.2.2.2.2.2.2.2.2.2.1, x.2.2.2.2.2.2.2.2.2.2.1, v, x.2.2.2.2.2.2.2.2.2.2.2.2.1, x.2.2.2.2.2.2.2.2.2.2.2.2.2.1, x.2.2.2.2.2.2.2.2.2.2.2.2.2.2.1, x.2.2.2.2.2.2.2.2.2.2.2.2.2.2.2.1, x.2.2.2.2.2.2.2.2.2.2.2.2.2.2.2.2.1, x.2.2.2.2.2.2.2.2.2.2.2.2.2.2.2.2.2)
abbrev mSa (x : MT) : Int64 := x.2.2.2.2.2.2.2.2.2.2.2.2.1
abbrev mSetSa (x : MT) (v : Int64) : MT := (x.1, x.2.1, x.2.2.1, x.2.2.2.1, x.2.2.2.2.1, x.2.2.2.2.2.1, x.2.2.2.2.2.2.1, x.2.2.2.2.2.2.2.1, x.2.2.2.2.2.2.2.2.1, x.2.2.2.2.2.2.2.2.2.1, x.2.2.2.2.2.2.2.2.2.2.1, x.2.2.2.2.2.2.2.2.2.2.2.1, v, x.2.2.2.2.2.2.2.2.2.2.2.2.2.1, x.2.2.2.2.2.2.2.2.2.2.2.2.2.2.1, x.2.2.2.2.2.2.2.2.2.2.2.2.2.2.2.1, x.2.2.2.2.2.2.2.2.2.2.2.2.2.2.2.2.1, x.2.2.2.2.2.2.2.2.2.2.2.2.2.2.2.2.2)
abbrev mBo (x : MT) : Nat → Int32 := x.2.2.2.2.2.2.2.2.2.2.2.2.2.1
abbrev mSetBo (x : MT) (v : Nat → Int32) : MT := (x.1, x.2.1, x.2.2.1, x.2.2.2.1, x.2.2.2.2.1, x.2.2.2.2.2.1, x.2.2.2.2.2.2.1, x.2.2.2.2.2.2.2.1, x.2.2.2.2.2.2.2.2.1, x.2.2.2.2.2.2.2.2.2.1, x.2.2.2.2.2.2.2.2.2.2.1, x.2.2.2.2.2.2.2.2.2.2.2.1, x.2.2.2.2.2.2.2.2.2.2.2.2.1, v, x.2.2.2.2.2.2.2.2.2.2.2.2.2.2.1, x.2.2.2.2.2.2.2.2.2.2.2.2.2.2.2.1, x.2.2.2.2.2.2.2.2.2.2.2.2.2.2.2.2.1, x.2.2.2.2.2.2.2.2.2.2.2.2.2.2.2.2.2)
abbrev mRa (x : MT) : Int32 := x.2.2.2.2.2.2.2.2.2.2.2.2.2.2.1
abbrev mSetRa (x : MT) (v : Int32) : MT := (x.1, x.2.1, x.2.2.1, x.2.2.2.1, x.2.2.2.2.1, x.2.2.2.2.2.1, x.2.2.2.2.2.2.1, x.2.2.2.2.2.2.2.1, x.2.2.2.2.2.2.2.2.1, x.2.2.2.2.2.2.2.2.2.1, x.2.2.2.2.2.2.2.2.2.2.1, x.2.2.2.2.2.2.2.2.2.2.2.1, x.2.2.2.2.2.2.2.2.2.2.2.2.1, x.2.2.2.2.2.2.2.2.2.2.2.2.2.1, v, x.2.2.2.2.2.2.2.2.2.2.2.2.2.2.2.1, x.2.2.2.2.2.2.2.2.2.2.2.2.2.2.2.2.1, x.2.2.2.2.2.2.2.2.2.2.2.2.2.2.2.2.2)
abbrev mKi (x : MT) : Int32 := x.2.2.2.2.2.2.2.2.2.2.2.2.2.2.2.1
abbrev mSetKi (x : MT) (v : Int32) : MT := (x.1, x.2.1, x.2.2.1, x.2.2.2.1, x.2.2.2.2.1, x.2.2.2.2.2.1, x.2.2.2.2.2.2.1, x.2.2.2.2.2.2.2.1, x.2.2.2.2.2.2.2.2.1, x.2.2.2.2.2.2.2.2.2.1, x.2.2.2.2.2.2.2.2.2.2.1, x.2.2.2.2.2.2.2.2.2.2.2.1, x.2.2.2.2.2.2.2.2.2.2.2.2.1, x.2.2.2.2.2.2.2.2.2.2.2.2.2.1, x.2.2.2.2.2.2.2.2.2.2.2.2.2.2.1, v, x.2.2.2.2.2.2.2.2.2.2.2.2.2.2.2.2.1, x.2.2.2.2.2.2.2.2.2.2.2.2.2.2.2.2.2)
abbrev mNu (x : MT) : Int32 := x.2.2.2.2.2.2.2.2.2.2.2.2.2.2.2.2.1
abbrev mSetNu (x : MT) (v : Int32) : MT := (x.1, x.2.1, x.2.2.1, x.2.2.2.1, x.2.2.2.2.1, x.2.2.2.2.2.1, x.2.2.2.2.2.2.1, x.2.2.2.2.2.2.2.1, x.2.2.2.2.2.2.2.2.1, x.2.2.2.2.2.2.2.2.2.1, x.2.2.2.2.2.2.2.2.2.2.1, x.2.2.2.2.2.2.2.2.2.2.2.1, x.2.2.2.2.2.2.2.2.2.2.2.2.1, x.2.2.2.2.2.2.2.2.2.2.2.2.2.1, x.2.2.2.2.2.2.2.2.2.2.2.2.2.2.1, x.2.2.2.2.2.2.2.2.2.2.2.2.2.2.2.1, v, x.2.2.2.2.2.2.2.2.2.2.2.2.2.2.2.2.2)
abbrev mTv (x : MT) : Int32 := x.2.2.2.2.2.2.2.2.2.2.2.2.2.2.2.2.2
abbrev mSetTv (x : MT) (v : Int32) : MT := (x.1, x.2.1, x.2.2.1, x.2.2.2.1, x.2.2.2.2.1, x.2.2.2.2.2.1, x.2.2.2.2.2.2.1, x.2.2.2.2.2.2.2.1, x.2.2.2.2.2.2.2.2.1, x.2.2.2.2.2.2.2.2.2.1, x.2.2.2.2.2.2.2.2.2.2.1, x.2.2.2.2.2.2.2.2.2.2.2.1, x.2.2.2.2.2.2.2.2.2.2.2.2.1, x.2.2.2.2.2.2.2.2.2.2.2.2.2.1, x.2.2.2.2.2.2.2.2.2.2.2.2.2.2.1, x.2.2.2.2.2.2.2.2.2.2.2.2.2.2.2.1, x.2.2.2.2.2.2.2.2.2.2.2.2.2.2.2.2.1, v)
/-- rows 3 and 4 (truths, heaps) are only for the time of a call: what stands in them is left open -/
def MAt (G : GG) (M : Nat → Nat) (x : MT) (H : Heap) : Prop := oA G (M 0) 6 [.int (mTh x), .ref (M 1), .ref (M 2), .int (b2i (mHi x)), .int (mAc x), .int (mSp x), .int (mEn x), .int (b2i (mWr x)), .int (mOp x), .ref (M 3), .ref (M 4), .long (mAl x), .long (mSa x), .ref (M 5), .int (mRa x), .int (mKi x), .int (mNu x), .int (mTv x)] H ∧ iA G 1 (M 1) 1920 (mS x) H ∧ iA G 1 (M 2) 1920 (mIm x) H ∧ (∃ f : Nat → Int32, iA G 2 (M 3) 64 f H) ∧ (∃ f : Nat → Int32, iA G 1 (M 4) 3 f H) ∧ iA G 1 (M 5) 20 (mBo x) H
theorem MAt.kept {G : GG} {M : Nat → Nat} {x : MT} {H H1 : Heap} (h : MAt G M x H) (hq : ∀ j, j < 6 → H1[M j]? = H[M j]?) : MAt G M x H1 := by
  obtain ⟨h0, h1, h2, ⟨f, h3⟩, ⟨g, h4⟩, h5⟩ := h
  exact ⟨h0.kept (hq 0 (by decide)), h1.kept (hq 1 (by decide)), h2.kept (hq 2 (by decide)), ⟨f, h3.kept (hq 3 (by decide))⟩, ⟨g, h4.kept (hq 4 (by decide))⟩, h5.kept (hq 5 (by decide))⟩
def mN (M : Nat → Nat) : Prop := ∀ i j : Nat, i < 6 → j < 6 → i ≠ j → M i ≠ M j
def mA (M : Nat → Nat) : Nat → Prop := fun q => ∃ i : Nat, i < 6 ∧ q = M i
theorem mA.in (M : Nat → Nat) (i : Nat) (h : i < 6) : mA M (M i) := ⟨i, h, rfl⟩
abbrev mt0 : MT := (0, (fun _ => 0), (fun _ => 0), false, 0, 0, 0, false, 0, (fun _ => 0), (fun _ => 0), 0, 0, (fun _ => 0), 0, 0, 0, 0)
theorem k_X6_init_oi : Cond.instanceMethod objectInit ∈ wsX6_init := by decide +kernel
theorem k_X6_init_oc : Cond.code objectInit ⟨#[0xb1]⟩ 1 none ∈ wsX6_init := by decide +kernel
theorem k_X6_init_methodLink_3 : Cond.methodLink RX6 3 objectInit ∈ wsX6_init := by decide +kernel
theorem k_X6_init_arr1 : Cond.arrayClass .int ∈ wsX6_init := by decide +kernel
theorem i_X6_init_X6 : ∀ w ∈ wsX60, w ∈ wsX6_init := fun _ h => List.mem_cons_of_mem _ (List.mem_append_right _ h)
theorem k_X6_init_fieldLink_9 : Cond.fieldLink RX6 9 "SameWaterModel" "s" "[I" ∈ wsX6_init := by decide +kernel
theorem k_X6_init_fieldLink_15 : Cond.fieldLink RX6 15 "SameWaterModel" "image" "[I" ∈ wsX6_init := by decide +kernel
theorem k_X6_init_arr2 : Cond.arrayClass .boolean ∈ wsX6_init := by decide +kernel
theorem k_X6_init_fieldLink_18 : Cond.fieldLink RX6 18 "SameWaterModel" "truths" "[Z" ∈ wsX6_init := by decide +kernel
theorem k_X6_init_fieldLink_22 : Cond.fieldLink RX6 22 "SameWaterModel" "heaps" "[I" ∈ wsX6_init := by decide +kernel
theorem k_X6_init_fieldLink_25 : Cond.fieldLink RX6 25 "SameWaterModel" "bodies" "[I" ∈ wsX6_init := by decide +kernel
set_option maxHeartbeats 4000000 in
set_option maxRecDepth 100000 in
theorem c_X6_init (l : Launch) (G : GG) (h : Nat) : Met l yX6_init wsX6_init { frames := 1, cells := (0 + 1 + 1 + 1 + 1 + 1), slots := (0 + 1920 + 1920 + 64 + 3 + 20), locals := 20 } (nP G [.ref h] (fun H => H.size = h + 1 ∧ oA G h 6 [.int 0, .null, .null, .int 0, .int 0, .int 0, .int 0, .int 0, .int 0, .null, .null, .long 0, .long 0, .null, .int 0, .int 0, .int 0, .int 0] H)) (nwQ none (fun H => H.size = h + 6 ∧ MAt G (fun j => h + j) mt0 H) (fun q => h ≤ q)) (0 + 1 + 1 + 1 + 1 + 1) (0 + 1920 + 1920 + 64 + 3 + 20) (fun q => h ≤ q) := by
  refine Met.ofW (cc := cX6_init) (maxL := 1) (ret := none) (by decide) rfl ?_
  intro p e s m args below meth c s₁ Bd hml hv
  obtain ⟨rfl, ⟨hK, hO⟩, hz, f_0⟩ := hv
  have hx := Bd.exec
  have hb := Bd.bytes
  have hr := Bd.returns
  have hin2 : meth.name = "<init>" := (name_of_methodNamed Bd.named Bd.method).1
  have hts := atoms_spec (ws := wsX6_init) Bd.pre
  have hown : s.vm.findClass RX6 = some m.cls := findClass_of_methodNamed Bd.named
  have hlocks := Bd.notSynchronized
  have hC : CallFix p m c cX6_init 1 s _ wsX6_init RX6 := ⟨hx, hb, hml, hown, hts⟩
  have hl := lv_entry ([.ref h]) (n := 1) (Nat.le_of_ble_eq_true rfl)
  rw [lg_entry_eq]
  generalize (lg_sl ([.ref h]) ++ List.replicate (1 - (lg_sl ([.ref h])).length) Slot.unset).toArray = ls at hl ⊢
  have hl : lv_has ls 1 [(0, .ref h)] := hl
  have hS : wS (fun q => h ≤ q) s.heap s.heap [] := wS.rf
  have hg : gW (fun q => h ≤ q) s.heap s.heap := gW.rf
  have hzb := hz
  refine lv_aload_n hx hb dX6_init_0 rfl (lv_at hl 0 rfl) ?_
  refine n_obj hx hb hts hown k_X6_init_methodLink_3 k_X6_init_oi k_X6_init_oc (by rw [hml]; exact hl.1) dX6_init_1 (Nat.le_of_ble_eq_true rfl) (Nat.le_of_ble_eq_true rfl) ?_
  refine lv_aload_n hx hb dX6_init_4 rfl (lv_at hl 0 rfl) ?_
  refine lv_sipush (v := 1920) hx hb dX6_init_5 (by decide +kernel) ?_
  refine n_newa (G := G) (atype := .int) (k := 1) (N := 1920) hx hb hts k_X6_init_arr1 hK rfl (fun _ z => z) rfl rfl (by decide) (by decide) hS (by first | exact Nat.le_of_ble_eq_true rfl | exact Nat.le_refl _) (by first | exact Nat.le_of_ble_eq_true rfl | exact Nat.le_refl _) dX6_init_8 (h := h + 1) hz (fun H f_1 z1 hq hS1 => ?_)
  replace hg := (hg.of hS).go (A1 := fun _ => False) (by omega) (fun _ z => z.elim) (fun q z _ => hq q (by omega))
  replace hS := hS1
  clear hS1
  replace hzb : H.size = h + 2 := by omega
  replace hz := hzb
  clear z1
  replace f_0 := f_0.kept (hq _ (by omega))
  clear hq
  refine w_putF (C := RX6) (T := TX6) (N := 18) hx hb hts i_X6_init_X6 tyX6 tyX6_ok nmX6 hown hK f_0 hS (show h ≤ h by omega) rfl 1 (by decide) k_X6_init_fieldLink_9 rfl rfl hin2 rfl rfl rfl (Nat.le_of_ble_eq_true rfl) dX6_init_10 (fun H locs hn hq hS9 => ?_)
  replace hz : H.size = h + 2 := hS9.1.trans hzb
  replace hS := hS9
  clear hS9
  replace f_0 : oA G h 6 [.int 0, .ref (h + 1), .null, .int 0, .int 0, .int 0, .int 0, .int 0, .int 0, .null, .null, .long 0, .long 0, .null, .int 0, .int 0, .int 0, .int 0] H := hn
  clear hn
  replace f_1 := f_1.kept (hq _ (by omega))
  clear hq
  refine lv_aload_n hx hb dX6_init_13 rfl (lv_at hl 0 rfl) ?_
  refine lv_sipush (v := 1920) hx hb dX6_init_14 (by decide +kernel) ?_
  refine n_newa (G := G) (atype := .int) (k := 1) (N := 1920) hx hb hts k_X6_init_arr1 hK rfl (fun _ z => z) rfl rfl (by decide) (by decide) hS (by first | exact Nat.le_of_ble_eq_true rfl | exact Nat.le_refl _) (by first | exact Nat.le_of_ble_eq_true rfl | exact Nat.le_refl _) dX6_init_17 (h := h + 2) hz (fun H f_2 z1 hq hS1 => ?_)
  replace hg := (hg.of hS).go (A1 := fun _ => False) (by omega) (fun _ z => z.elim) (fun q z _ => hq q (by omega))
  replace hS := hS1
  clear hS1
  replace hzb : H.size = h + 3 := by omega
  replace hz := hzb
  clear z1
  replace f_0 := f_0.kept (hq _ (by omega))
  replace f_1 := f_1.kept (hq _ (by omega))
  clear hq
  refine w_putF (C := RX6) (T := TX6) (N := 18) hx hb hts i_X6_init_X6 tyX6 tyX6_ok nmX6 hown hK f_0 hS (show h ≤ h by omega) rfl 2 (by decide) k_X6_init_fieldLink_15 rfl rfl hin2 rfl rfl rfl (Nat.le_of_ble_eq_true rfl) dX6_init_19 (fun H locs hn hq hS9 => ?_)
  replace hz : H.size = h + 3 := hS9.1.trans hzb
  replace hS := hS9
  clear hS9
  replace f_0 : oA G h 6 [.int 0, .ref (h + 1), .ref (h + 2), .int 0, .int 0, .int 0, .int 0, .int 0, .int 0, .null, .null, .long 0, .long 0, .null, .int 0, .int 0, .int 0, .int 0] H := hn
  clear hn
  replace f_1 := f_1.kept (hq _ (by omega))
  replace f_2 := f_2.kept (hq _ (by omega))
  clear hq
  refine lv_aload_n hx hb dX6_init_22 rfl (lv_at hl 0 rfl) ?_
  refine lv_bipush (v := 64) hx hb dX6_init_23 (by decide +kernel) ?_
  refine n_newa (G := G) (atype := .boolean) (k := 2) (N := 64) hx hb hts k_X6_init_arr2 hK rfl (fun _ z => z) rfl rfl (by decide) (by decide) hS (by first | exact Nat.le_of_ble_eq_true rfl | exact Nat.le_refl _) (by first | exact Nat.le_of_ble_eq_true rfl | exact Nat.le_refl _) dX6_init_25 (h := h + 3) hz (fun H f_3 z1 hq hS1 => ?_)
  replace hg := (hg.of hS).go (A1 := fun _ => False) (by omega) (fun _ z => z.elim) (fun q z _ => hq q (by omega))
  replace hS := hS1
  clear hS1
  replace hzb : H.size = h + 4 := by omega
  replace hz := hzb
  clear z1
  replace f_0 := f_0.kept (hq _ (by omega))
  replace f_1 := f_1.kept (hq _ (by omega))
  replace f_2 := f_2.kept (hq _ (by omega))
  clear hq
  refine w_putF (C := RX6) (T := TX6) (N := 18) hx hb hts i_X6_init_X6 tyX6 tyX6_ok nmX6 hown hK f_0 hS (show h ≤ h by omega) rfl 9 (by decide) k_X6_init_fieldLink_18 rfl rfl hin2 rfl rfl rfl (Nat.le_of_ble_eq_true rfl) dX6_init_27 (fun H locs hn hq hS9 => ?_)
  replace hz : H.size = h + 4 := hS9.1.trans hzb
  replace hS := hS9
  clear hS9
  replace f_0 : oA G h 6 [.int 0, .ref (h + 1), .ref (h + 2), .int 0, .int 0, .int 0, .int 0, .int 0, .int 0, .ref (h + 3), .null, .long 0, .long 0, .null, .int 0, .int 0, .int 0, .int 0] H := hn
  clear hn
  replace f_1 := f_1.kept (hq _ (by omega))
  replace f_2 := f_2.kept (hq _ (by omega))
  replace f_3 := f_3.kept (hq _ (by omega))
  clear hq
  refine lv_aload_n hx hb dX6_init_30 rfl (lv_at hl 0 rfl) ?_
  refine lv_iconst (v := 3) hx hb dX6_init_31 (by decide) ?_
  refine n_newa (G := G) (atype := .int) (k := 1) (N := 3) hx hb hts k_X6_init_arr1 hK rfl (fun _ z => z) rfl rfl (by decide) (by decide) hS (by first | exact Nat.le_of_ble_eq_true rfl | exact Nat.le_refl _) (by first | exact Nat.le_of_ble_eq_true rfl | exact Nat.le_refl _) dX6_init_32 (h := h + 4) hz (fun H f_4 z1 hq hS1 => ?_)
  replace hg := (hg.of hS).go (A1 := fun _ => False) (by omega) (fun _ z => z.elim) (fun q z _ => hq q (by omega))
  replace hS := hS1
  clear hS1
  replace hzb : H.size = h + 5 := by omega
  replace hz := hzb
  clear z1
  replace f_0 := f_0.kept (hq _ (by omega))
  replace f_1 := f_1.kept (hq _ (by omega))
  replace f_2 := f_2.kept (hq _ (by omega))
  replace f_3 := f_3.kept (hq _ (by omega))
  clear hq
  refine w_putF (C := RX6) (T := TX6) (N := 18) hx hb hts i_X6_init_X6 tyX6 tyX6_ok nmX6 hown hK f_0 hS (show h ≤ h by omega) rfl 10 (by decide) k_X6_init_fieldLink_22 rfl rfl hin2 rfl rfl rfl (Nat.le_of_ble_eq_true rfl) dX6_init_34 (fun H locs hn hq hS9 => ?_)
  replace hz : H.size = h + 5 := hS9.1.trans hzb
  replace hS := hS9
  clear hS9
  replace f_0 : oA G h 6 [.int 0, .ref (h + 1), .ref (h + 2), .int 0, .int 0, .int 0, .int 0, .int 0, .int 0, .ref (h + 3), .ref (h + 4), .long 0, .long 0, .null, .int 0, .int 0, .int 0, .int 0] H := hn
  clear hn
  replace f_1 := f_1.kept (hq _ (by omega))
  replace f_2 := f_2.kept (hq _ (by omega))
  replace f_3 := f_3.kept (hq _ (by omega))
  replace f_4 := f_4.kept (hq _ (by omega))
  clear hq
  refine lv_aload_n hx hb dX6_init_37 rfl (lv_at hl 0 rfl) ?_
  refine lv_bipush (v := 20) hx hb dX6_init_38 (by decide +kernel) ?_
  refine n_newa (G := G) (atype := .int) (k := 1) (N := 20) hx hb hts k_X6_init_arr1 hK rfl (fun _ z => z) rfl rfl (by decide) (by decide) hS (by first | exact Nat.le_of_ble_eq_true rfl | exact Nat.le_refl _) (by first | exact Nat.le_of_ble_eq_true rfl | exact Nat.le_refl _) dX6_init_40 (h := h + 5) hz (fun H f_5 z1 hq hS1 => ?_)
  replace hg := (hg.of hS).go (A1 := fun _ => False) (by omega) (fun _ z => z.elim) (fun q z _ => hq q (by omega))
  replace hS := hS1
  clear hS1
  replace hzb : H.size = h + 6 := by omega
  replace hz := hzb
  clear z1
  replace f_0 := f_0.kept (hq _ (by omega))
  replace f_1 := f_1.kept (hq _ (by omega))
  replace f_2 := f_2.kept (hq _ (by omega))
  replace f_3 := f_3.kept (hq _ (by omega))
  replace f_4 := f_4.kept (hq _ (by omega))
  clear hq
  refine w_putF (C := RX6) (T := TX6) (N := 18) hx hb hts i_X6_init_X6 tyX6 tyX6_ok nmX6 hown hK f_0 hS (show h ≤ h by omega) rfl 13 (by decide) k_X6_init_fieldLink_25 rfl rfl hin2 rfl rfl rfl (Nat.le_of_ble_eq_true rfl) dX6_init_42 (fun H locs hn hq hS9 => ?_)
  replace hz : H.size = h + 6 := hS9.1.trans hzb
  replace hS := hS9
  clear hS9
  replace f_0 : oA G h 6 [.int 0, .ref (h + 1), .ref (h + 2), .int 0, .int 0, .int 0, .int 0, .int 0, .int 0, .ref (h + 3), .ref (h + 4), .long 0, .long 0, .ref (h + 5), .int 0, .int 0, .int 0, .int 0] H := hn
  clear hn
  replace f_1 := f_1.kept (hq _ (by omega))
  replace f_2 := f_2.kept (hq _ (by omega))
  replace f_3 := f_3.kept (hq _ (by omega))
  replace f_4 := f_4.kept (hq _ (by omega))
  replace f_5 := f_5.kept (hq _ (by omega))
  clear hq
  exact n_vret hx hb hr hlocks dX6_init_45 hg hS ⟨hz, (⟨f_0, f_1, f_2, ⟨_, f_3⟩, ⟨_, f_4⟩, f_5⟩ : MAt G (fun j => h + j) mt0 H)⟩
def r_in (vv : Int32) (low : Int32) (high : Int32) : Bool := (if vv < low then false else if high < vv then false else true)
set_option maxHeartbeats 4000000 in
set_option maxRecDepth 100000 in
theorem c_X6_in (l : Launch) (G : GG) (vv : Int32) (low : Int32) (high : Int32)  : Met l yX6_in wsX6_in { frames := 0, cells := 0, slots := 0, locals := 0 } (roP G [.int vv, .int low, .int high] (fun H => True)) (roQ (some (.int (b2i (r_in vv low high))))) 0 0 nF := by
  refine Met.ofW (cc := cX6_in) (maxL := 3) (ret := (some .boolean)) (by decide) rfl ?_
  intro p e s m args below meth c s₁ Bd hml hv
  obtain ⟨rfl, hK, hB⟩ := hv
  have hx := Bd.exec
  have hb := Bd.bytes
  have hr := Bd.returns
  have hts := atoms_spec (ws := wsX6_in) Bd.pre
  have hown : s.vm.findClass RX6 = some m.cls := findClass_of_methodNamed Bd.named
  have hlocks := Bd.notSynchronized
  have hC : CallFix p m c cX6_in 3 s _ wsX6_in RX6 := ⟨hx, hb, hml, hown, hts⟩
  have hl := lv_entry ([.int vv, .int low, .int high]) (n := 3) (Nat.le_of_ble_eq_true rfl)
  rw [lg_entry_eq]
  generalize (lg_sl ([.int vv, .int low, .int high]) ++ List.replicate (3 - (lg_sl ([.int vv, .int low, .int high])).length) Slot.unset).toArray = ls at hl ⊢
  have hl : lv_has ls 3 [(0, .int vv), (1, .int low), (2, .int high)] := hl
  refine lv_iload_n hx hb dX6_in_0 rfl (lv_at hl 0 rfl) ?_
  refine lv_iload_n hx hb dX6_in_1 rfl (lv_at hl 1 rfl) ?_
  refine join_at (nL := 3) 15 [(0, .int vv), (1, .int low), (2, .int high)] [.int (b2i (if vv < low then false else if high < vv then false else true))] (fun ls hl => ?_) (fun J_1 => ?_)
  · exact ro_zret hx hb hr hlocks dX6_in_15 rfl
  · refine lv_icmp_lt (tgt := 14) hx hb dX6_in_2 (by decide) (fun h_2 => ?_) (fun h_2 => ?_)
    · refine lv_iconst (v := 0) hx hb dX6_in_14 (by decide) ?_
      have hJ := J_1; (repeat rw [if_pos h_2] at hJ)
      first | exact hJ ls (lv_sub hl [0, 1, 2] rfl) | ((repeat rw [if_pos h_2] at hl); (repeat rw [if_pos h_2]); exact hJ ls (lv_sub hl [0, 1, 2] rfl))
    · refine lv_iload_n hx hb dX6_in_5 rfl (lv_at hl 0 rfl) ?_
      refine lv_iload_n hx hb dX6_in_6 rfl (lv_at hl 2 rfl) ?_
      refine lv_icmp_gt (tgt := 14) hx hb dX6_in_7 (by decide) (fun h_3 => ?_) (fun h_3 => ?_)
      · refine lv_iconst (v := 0) hx hb dX6_in_14 (by decide) ?_
        have hJ := J_1; (repeat rw [if_neg h_2] at hJ); (repeat rw [if_pos h_3] at hJ)
        first | exact hJ ls (lv_sub hl [0, 1, 2] rfl) | ((repeat rw [if_neg h_2] at hl); (repeat rw [if_pos h_3] at hl); (repeat rw [if_neg h_2]); (repeat rw [if_pos h_3]); exact hJ ls (lv_sub hl [0, 1, 2] rfl))
      · refine lv_iconst (v := 1) hx hb dX6_in_10 (by decide) ?_
        refine lv_goto (tgt := 15) hx hb dX6_in_11 (by decide) ?_
        have hJ := J_1; (repeat rw [if_neg h_2] at hJ); (repeat rw [if_neg h_3] at hJ)
        first | exact hJ ls (lv_sub hl [0, 1, 2] rfl) | ((repeat rw [if_neg h_2] at hl); (repeat rw [if_neg h_3] at hl); (repeat rw [if_neg h_2]); (repeat rw [if_neg h_3]); exact hJ ls (lv_sub hl [0, 1, 2] rfl))
theorem kd_X6_in : yX6_in.cls ≠ "java/lang/invoke/MethodHandle" ∧ yX6_in.cls ≠ "java/lang/invoke/VarHandle" ∧ (parseMethodDescriptor yX6_in.desc).map (fun d => d.parameters.length) = some 3 := by decide +kernel
def r_isStuff (kk : Int32) : Bool := (r_in kk 0 3)
set_option maxHeartbeats 4000000 in
set_option maxRecDepth 100000 in
theorem c_X6_isStuff (l : Launch) (G : GG) (kk : Int32)  : Met l yX6_isStuff wsX6_isStuff { frames := 1, cells := 0, slots := 0, locals := 22 } (roP G [.int kk] (fun H => True)) (roQ (some (.int (b2i (r_isStuff kk))))) 0 0 nF := by
  refine Met.ofW (cc := cX6_isStuff) (maxL := 1) (ret := (some .boolean)) (by decide) rfl ?_
  intro p e s m args below meth c s₁ Bd hml hv
  obtain ⟨rfl, hK, hB⟩ := hv
  have hx := Bd.exec
  have hb := Bd.bytes
  have hr := Bd.returns
  have hts := atoms_spec (ws := wsX6_isStuff) Bd.pre
  have hown : s.vm.findClass RX6 = some m.cls := findClass_of_methodNamed Bd.named
  have hlocks := Bd.notSynchronized
  have hC : CallFix p m c cX6_isStuff 1 s _ wsX6_isStuff RX6 := ⟨hx, hb, hml, hown, hts⟩
  have hl := lv_entry ([.int kk]) (n := 1) (Nat.le_of_ble_eq_true rfl)
  rw [lg_entry_eq]
  generalize (lg_sl ([.int kk]) ++ List.replicate (1 - (lg_sl ([.int kk])).length) Slot.unset).toArray = ls at hl ⊢
  have hl : lv_has ls 1 [(0, .int kk)] := hl
  refine lv_iload_n hx hb dX6_isStuff_0 rfl (lv_at hl 0 rfl) ?_
  refine lv_iconst (v := 0) hx hb dX6_isStuff_1 (by decide) ?_
  refine lv_iconst (v := 3) hx hb dX6_isStuff_2 (by decide) ?_
  refine ro_call (va_runS (As := [.int kk, .int 0, .int 3]) (rest := []) hC (c_X6_in l G kk 0 3) (va_cwS 3 hts gX6_isStuff_X6_in rfl rfl rfl kd_X6_in ⟨Nat.le_of_ble_eq_true rfl, Nat.le_of_ble_eq_true rfl⟩) (ro_preS hK trivial) rfl rfl hl.1 rfl (lv_room (Nat.le_of_ble_eq_true rfl)) dX6_isStuff_3 ⟨Nat.zero_le _, Nat.zero_le _⟩) ?_
  exact ro_zret hx hb hr hlocks dX6_isStuff_6 rfl
theorem i_X6_isChild_X6 : ∀ w ∈ wsX60, w ∈ wsX6_isChild := fun _ h => List.mem_cons_of_mem _ (List.mem_append_right _ h)
theorem k_X6_isChild_fieldLink_9 : Cond.fieldLink RX6 9 "SameWaterModel" "s" "[I" ∈ wsX6_isChild := by decide +kernel
def r_isChild (x : MT) (cc : Int32) : Bool := (r_in cc 0 (((mS x) (0 : Int32).toNatClampNeg) - 1))
set_option maxHeartbeats 4000000 in
set_option maxRecDepth 100000 in
theorem c_X6_isChild (l : Launch) (G : GG) (M : Nat → Nat) (x : MT) (cc : Int32)  : Met l yX6_isChild wsX6_isChild { frames := 1, cells := 0, slots := 0, locals := 22 } (roP G [.ref (M 0), .int cc] (fun H => MAt G M x H)) (roQ (some (.int (b2i (r_isChild x cc))))) 0 0 nF := by
  refine Met.ofW (cc := cX6_isChild) (maxL := 2) (ret := (some .boolean)) (by decide) rfl ?_
  intro p e s m args below meth c s₁ Bd hml hv
  obtain ⟨rfl, hK, hB⟩ := hv
  have hx := Bd.exec
  have hb := Bd.bytes
  have hr := Bd.returns
  have hts := atoms_spec (ws := wsX6_isChild) Bd.pre
  have hown : s.vm.findClass RX6 = some m.cls := findClass_of_methodNamed Bd.named
  have hlocks := Bd.notSynchronized
  have hC : CallFix p m c cX6_isChild 2 s _ wsX6_isChild RX6 := ⟨hx, hb, hml, hown, hts⟩
  have hl := lv_entry ([.ref (M 0), .int cc]) (n := 2) (Nat.le_of_ble_eq_true rfl)
  rw [lg_entry_eq]
  generalize (lg_sl ([.ref (M 0), .int cc]) ++ List.replicate (2 - (lg_sl ([.ref (M 0), .int cc])).length) Slot.unset).toArray = ls at hl ⊢
  have hl : lv_has ls 2 [(0, .ref (M 0)), (1, .int cc)] := hl
  refine lv_iload_n hx hb dX6_isChild_0 rfl (lv_at hl 1 rfl) ?_
  refine lv_iconst (v := 0) hx hb dX6_isChild_1 (by decide) ?_
  refine lv_aload_n hx hb dX6_isChild_2 rfl (lv_at hl 0 rfl) ?_
  refine r_get (C := RX6) (T := TX6) (N := 18) hx hb hts i_X6_isChild_X6 hown hK hB.1 rfl 1 (by decide) k_X6_isChild_fieldLink_9 rfl rfl dX6_isChild_3 ?_
  refine lv_iconst (v := 0) hx hb dX6_isChild_6 (by decide) ?_
  refine r_iald hx hb hK hB.2.1 (show ¬ ((0 : Int32) < 0 ∨ 1920 ≤ (0 : Int32).toNatClampNeg) by decide) dX6_isChild_7 ?_
  refine lv_iconst (v := 1) hx hb dX6_isChild_8 (by decide) ?_
  refine lv_isub hx hb dX6_isChild_9 ?_
  refine ro_call (va_runS (As := [.int cc, .int 0, .int (((mS x) (0 : Int32).toNatClampNeg) - 1)]) (rest := []) hC (c_X6_in l G cc 0 (((mS x) (0 : Int32).toNatClampNeg) - 1)) (va_cwS 3 hts gX6_isChild_X6_in rfl rfl rfl kd_X6_in ⟨Nat.le_of_ble_eq_true rfl, Nat.le_of_ble_eq_true rfl⟩) (ro_preS hK trivial) rfl rfl hl.1 rfl (lv_room (Nat.le_of_ble_eq_true rfl)) dX6_isChild_10 ⟨Nat.zero_le _, Nat.zero_le _⟩) ?_
  exact ro_zret hx hb hr hlocks dX6_isChild_13 rfl
theorem i_X6_isAsking_X6 : ∀ w ∈ wsX60, w ∈ wsX6_isAsking := fun _ h => List.mem_cons_of_mem _ (List.mem_append_right _ h)
theorem k_X6_isAsking_fieldLink_9 : Cond.fieldLink RX6 9 "SameWaterModel" "s" "[I" ∈ wsX6_isAsking := by decide +kernel
def r_isAsking (x : MT) (cc : Int32) : Bool := (r_in cc 0 (((mS x) (1 : Int32).toNatClampNeg) - 1))
set_option maxHeartbeats 4000000 in
set_option maxRecDepth 100000 in
theorem c_X6_isAsking (l : Launch) (G : GG) (M : Nat → Nat) (x : MT) (cc : Int32)  : Met l yX6_isAsking wsX6_isAsking { frames := 1, cells := 0, slots := 0, locals := 22 } (roP G [.ref (M 0), .int cc] (fun H => MAt G M x H)) (roQ (some (.int (b2i (r_isAsking x cc))))) 0 0 nF := by
  refine Met.ofW (cc := cX6_isAsking) (maxL := 2) (ret := (some .boolean)) (by decide) rfl ?_
  intro p e s m args below meth c s₁ Bd hml hv
  obtain ⟨rfl, hK, hB⟩ := hv
  have hx := Bd.exec
  have hb := Bd.bytes
  have hr := Bd.returns
  have hts := atoms_spec (ws := wsX6_isAsking) Bd.pre
  have hown : s.vm.findClass RX6 = some m.cls := findClass_of_methodNamed Bd.named
  have hlocks := Bd.notSynchronized
  have hC : CallFix p m c cX6_isAsking 2 s _ wsX6_isAsking RX6 := ⟨hx, hb, hml, hown, hts⟩
  have hl := lv_entry ([.ref (M 0), .int cc]) (n := 2) (Nat.le_of_ble_eq_true rfl)
  rw [lg_entry_eq]
  generalize (lg_sl ([.ref (M 0), .int cc]) ++ List.replicate (2 - (lg_sl ([.ref (M 0), .int cc])).length) Slot.unset).toArray = ls at hl ⊢
  have hl : lv_has ls 2 [(0, .ref (M 0)), (1, .int cc)] := hl
  refine lv_iload_n hx hb dX6_isAsking_0 rfl (lv_at hl 1 rfl) ?_
  refine lv_iconst (v := 0) hx hb dX6_isAsking_1 (by decide) ?_
  refine lv_aload_n hx hb dX6_isAsking_2 rfl (lv_at hl 0 rfl) ?_
  refine r_get (C := RX6) (T := TX6) (N := 18) hx hb hts i_X6_isAsking_X6 hown hK hB.1 rfl 1 (by decide) k_X6_isAsking_fieldLink_9 rfl rfl dX6_isAsking_3 ?_
  refine lv_iconst (v := 1) hx hb dX6_isAsking_6 (by decide) ?_
  refine r_iald hx hb hK hB.2.1 (show ¬ ((1 : Int32) < 0 ∨ 1920 ≤ (1 : Int32).toNatClampNeg) by decide) dX6_isAsking_7 ?_
  refine lv_iconst (v := 1) hx hb dX6_isAsking_8 (by decide) ?_
  refine lv_isub hx hb dX6_isAsking_9 ?_
  refine ro_call (va_runS (As := [.int cc, .int 0, .int (((mS x) (1 : Int32).toNatClampNeg) - 1)]) (rest := []) hC (c_X6_in l G cc 0 (((mS x) (1 : Int32).toNatClampNeg) - 1)) (va_cwS 3 hts gX6_isAsking_X6_in rfl rfl rfl kd_X6_in ⟨Nat.le_of_ble_eq_true rfl, Nat.le_of_ble_eq_true rfl⟩) (ro_preS hK trivial) rfl rfl hl.1 rfl (lv_room (Nat.le_of_ble_eq_true rfl)) dX6_isAsking_10 ⟨Nat.zero_le _, Nat.zero_le _⟩) ?_
  exact ro_zret hx hb hr hlocks dX6_isAsking_13 rfl
theorem i_X6_isAnswer_X6 : ∀ w ∈ wsX60, w ∈ wsX6_isAnswer := fun _ h => List.mem_cons_of_mem _ (List.mem_append_right _ h)
theorem k_X6_isAnswer_fieldLink_9 : Cond.fieldLink RX6 9 "SameWaterModel" "s" "[I" ∈ wsX6_isAnswer := by decide +kernel
def r_isAnswer (x : MT) (cc : Int32) : Bool := (r_in cc 0 (((mS x) (2 : Int32).toNatClampNeg) - 1))
set_option maxHeartbeats 4000000 in
set_option maxRecDepth 100000 in
theorem c_X6_isAnswer (l : Launch) (G : GG) (M : Nat → Nat) (x : MT) (cc : Int32)  : Met l yX6_isAnswer wsX6_isAnswer { frames := 1, cells := 0, slots := 0, locals := 22 } (roP G [.ref (M 0), .int cc] (fun H => MAt G M x H)) (roQ (some (.int (b2i (r_isAnswer x cc))))) 0 0 nF := by
  refine Met.ofW (cc := cX6_isAnswer) (maxL := 2) (ret := (some .boolean)) (by decide) rfl ?_
  intro p e s m args below meth c s₁ Bd hml hv
  obtain ⟨rfl, hK, hB⟩ := hv
  have hx := Bd.exec
  have hb := Bd.bytes
  have hr := Bd.returns
  have hts := atoms_spec (ws := wsX6_isAnswer) Bd.pre
  have hown : s.vm.findClass RX6 = some m.cls := findClass_of_methodNamed Bd.named
  have hlocks := Bd.notSynchronized
  have hC : CallFix p m c cX6_isAnswer 2 s _ wsX6_isAnswer RX6 := ⟨hx, hb, hml, hown, hts⟩
  have hl := lv_entry ([.ref (M 0), .int cc]) (n := 2) (Nat.le_of_ble_eq_true rfl)
  rw [lg_entry_eq]
  generalize (lg_sl ([.ref (M 0), .int cc]) ++ List.replicate (2 - (lg_sl ([.ref (M 0), .int cc])).length) Slot.unset).toArray = ls at hl ⊢
  have hl : lv_has ls 2 [(0, .ref (M 0)), (1, .int cc)] := hl
  refine lv_iload_n hx hb dX6_isAnswer_0 rfl (lv_at hl 1 rfl) ?_
  refine lv_iconst (v := 0) hx hb dX6_isAnswer_1 (by decide) ?_
  refine lv_aload_n hx hb dX6_isAnswer_2 rfl (lv_at hl 0 rfl) ?_
  refine r_get (C := RX6) (T := TX6) (N := 18) hx hb hts i_X6_isAnswer_X6 hown hK hB.1 rfl 1 (by decide) k_X6_isAnswer_fieldLink_9 rfl rfl dX6_isAnswer_3 ?_
  refine lv_iconst (v := 2) hx hb dX6_isAnswer_6 (by decide) ?_
  refine r_iald hx hb hK hB.2.1 (show ¬ ((2 : Int32) < 0 ∨ 1920 ≤ (2 : Int32).toNatClampNeg) by decide) dX6_isAnswer_7 ?_
  refine lv_iconst (v := 1) hx hb dX6_isAnswer_8 (by decide) ?_
  refine lv_isub hx hb dX6_isAnswer_9 ?_
  refine ro_call (va_runS (As := [.int cc, .int 0, .int (((mS x) (2 : Int32).toNatClampNeg) - 1)]) (rest := []) hC (c_X6_in l G cc 0 (((mS x) (2 : Int32).toNatClampNeg) - 1)) (va_cwS 3 hts gX6_isAnswer_X6_in rfl rfl rfl kd_X6_in ⟨Nat.le_of_ble_eq_true rfl, Nat.le_of_ble_eq_true rfl⟩) (ro_preS hK trivial) rfl rfl hl.1 rfl (lv_room (Nat.le_of_ble_eq_true rfl)) dX6_isAnswer_10 ⟨Nat.zero_le _, Nat.zero_le _⟩) ?_
  exact ro_zret hx hb hr hlocks dX6_isAnswer_13 rfl
theorem i_X6_isLaw_X6 : ∀ w ∈ wsX60, w ∈ wsX6_isLaw := fun _ h => List.mem_cons_of_mem _ (List.mem_append_right _ h)
theorem k_X6_isLaw_fieldLink_9 : Cond.fieldLink RX6 9 "SameWaterModel" "s" "[I" ∈ wsX6_isLaw := by decide +kernel
def r_isLaw (x : MT) (cc : Int32) : Bool := (r_in cc 0 (((mS x) (3 : Int32).toNatClampNeg) - 1))
set_option maxHeartbeats 4000000 in
set_option maxRecDepth 100000 in
theorem c_X6_isLaw (l : Launch) (G : GG) (M : Nat → Nat) (x : MT) (cc : Int32)  : Met l yX6_isLaw wsX6_isLaw { frames := 1, cells := 0, slots := 0, locals := 22 } (roP G [.ref (M 0), .int cc] (fun H => MAt G M x H)) (roQ (some (.int (b2i (r_isLaw x cc))))) 0 0 nF := by
  refine Met.ofW (cc := cX6_isLaw) (maxL := 2) (ret := (some .boolean)) (by decide) rfl ?_
  intro p e s m args below meth c s₁ Bd hml hv
  obtain ⟨rfl, hK, hB⟩ := hv
  have hx := Bd.exec
  have hb := Bd.bytes
  have hr := Bd.returns
  have hts := atoms_spec (ws := wsX6_isLaw) Bd.pre
  have hown : s.vm.findClass RX6 = some m.cls := findClass_of_methodNamed Bd.named
  have hlocks := Bd.notSynchronized
  have hC : CallFix p m c cX6_isLaw 2 s _ wsX6_isLaw RX6 := ⟨hx, hb, hml, hown, hts⟩
  have hl := lv_entry ([.ref (M 0), .int cc]) (n := 2) (Nat.le_of_ble_eq_true rfl)
  rw [lg_entry_eq]
  generalize (lg_sl ([.ref (M 0), .int cc]) ++ List.replicate (2 - (lg_sl ([.ref (M 0), .int cc])).length) Slot.unset).toArray = ls at hl ⊢
  have hl : lv_has ls 2 [(0, .ref (M 0)), (1, .int cc)] := hl
  refine lv_iload_n hx hb dX6_isLaw_0 rfl (lv_at hl 1 rfl) ?_
  refine lv_iconst (v := 0) hx hb dX6_isLaw_1 (by decide) ?_
  refine lv_aload_n hx hb dX6_isLaw_2 rfl (lv_at hl 0 rfl) ?_
  refine r_get (C := RX6) (T := TX6) (N := 18) hx hb hts i_X6_isLaw_X6 hown hK hB.1 rfl 1 (by decide) k_X6_isLaw_fieldLink_9 rfl rfl dX6_isLaw_3 ?_
  refine lv_iconst (v := 3) hx hb dX6_isLaw_6 (by decide) ?_
  refine r_iald hx hb hK hB.2.1 (show ¬ ((3 : Int32) < 0 ∨ 1920 ≤ (3 : Int32).toNatClampNeg) by decide) dX6_isLaw_7 ?_
  refine lv_iconst (v := 1) hx hb dX6_isLaw_8 (by decide) ?_
  refine lv_isub hx hb dX6_isLaw_9 ?_
  refine ro_call (va_runS (As := [.int cc, .int 0, .int (((mS x) (3 : Int32).toNatClampNeg) - 1)]) (rest := []) hC (c_X6_in l G cc 0 (((mS x) (3 : Int32).toNatClampNeg) - 1)) (va_cwS 3 hts gX6_isLaw_X6_in rfl rfl rfl kd_X6_in ⟨Nat.le_of_ble_eq_true rfl, Nat.le_of_ble_eq_true rfl⟩) (ro_preS hK trivial) rfl rfl hl.1 rfl (lv_room (Nat.le_of_ble_eq_true rfl)) dX6_isLaw_10 ⟨Nat.zero_le _, Nat.zero_le _⟩) ?_
  exact ro_zret hx hb hr hlocks dX6_isLaw_13 rfl

def rAll (len : Int) (b : Int → Int) : Nat → Int → (Int → Int) → Int → Bool × Int × (Int → Int) × Int
  | 0, q, O, w => (true, q, O, w)
  | k + 1, q, O, w => if (rReads len b q O w).1 = true ∧ (rReads len b q O w).2.1 < len then rAll len b k (rReads len b q O w).2.1 (rReads len b q O w).2.2.1 (rReads len b q O w).2.2.2 else rReads len b q O w
def mRd (M : Md) : Bool × Int × (Int → Int) × Int := rAll (m_typed M) (m_text M) 121 (skT (m_typed M) (m_text M) 0) (m_orders M) 0
def mWith (q : Int) (O : Int → Int) (w : Int) (M : Md) : Md := ms_look (ms_written (ms_orders M O) w) q
def mDo (M : Md) : Bool × Int × (Int → Int) := nDoL (mRd M).2.2.1 (mRd M).2.2.2.toNat 0 (m_now M)
def mDoes (M : Md) : Int × Md := if (mRd M).1 = true then
    (if (mDo M).1 = true then ((mRd M).2.2.2, mLeave (ms_now (ms_kept (mWith (mRd M).2.1 (mRd M).2.2.1 (mRd M).2.2.2 M) (nPut 5 (m_now M) (m_kept M))) (mDo M).2.2))
     else (-1000 - (mDo M).2.1, ms_known (ms_now (ms_kept (mWith (mRd M).2.1 (mRd M).2.2.1 (mRd M).2.2.2 M) (nPut 5 (m_now M) (m_kept M))) (nTake 5 (nPut 5 (m_now M) (m_kept M)) (mDo M).2.2)) 0))
  else (-10 - (mRd M).2.1, mWith (mRd M).2.1 (mRd M).2.2.1 (mRd M).2.2.2 M)
theorem mOk_low {M : Md} {q w : Int} {O : Int → Int} (h : mOk M) (hq : 0 ≤ q ∧ q ≤ 120) (hO : oOk O) (hw : 0 ≤ w ∧ w ≤ 60) : mOk (mWith q O w M) := by
  obtain ⟨h1, h2, h3, h4, h5, h6, h7, h8, h9, h10, h11, h12, h13, h14, h15, h16, h17, h18, h19, h20, h21, h22, h23, h24, h25⟩ := h
  exact ⟨h1, h2, h3, h4, h5, h6, h7, h8, h9, h10, h11, h12, h13, h14, h15, h16, h17, h18, h19, h20, h21, h22, hO, hw, hq⟩
theorem mLeave_w (M : Md) : m_written (mLeave M) = m_written M := by unfold mLeave; split <;> rfl

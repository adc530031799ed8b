def mAllF (a m x y z : Int) (d : Int) (X : Md) : Md := if bA (x / p2 d) 1 = 1 then mComes a m d y z X else X
def mAll (a m x y z : Int) (M : Md) : Md := it (mAllF a m x y z) 8 0 M
theorem mAllF_ok {X : Md} {a m x y z d : Int} (h : mC X) (ho : mOk X) (ha : 0 ≤ a ∧ a < 8) (hm : 0 ≤ m ∧ m < 24) (hd : 0 ≤ d ∧ d < 8) (hy : -1 ≤ y ∧ y < 1536) (hz : -1 ≤ z ∧ z < 1536) : mC (mAllF a m x y z d X) ∧ mOk (mAllF a m x y z d X) := by
  unfold mAllF
  split
  · exact ⟨mComes_C h ho ha hm hd, mComes_ok h ho ha hm hd hy hz⟩
  · exact ⟨h, ho⟩
theorem mAll_ok {M : Md} {a m x y z : Int} (h : mC M) (ho : mOk M) (ha : 0 ≤ a ∧ a < 8) (hm : 0 ≤ m ∧ m < 24) (hy : -1 ≤ y ∧ y < 1536) (hz : -1 ≤ z ∧ z < 1536) : mC (mAll a m x y z M) ∧ mOk (mAll a m x y z M) :=
  it_inv (fun _ X => mC X ∧ mOk X) (b := 8) 8 0 M (by omega) ⟨h, ho⟩ (fun j X h1 h2 hX => mAllF_ok hX.1 hX.2 ha hm (by omega) hy hz)
/-- what the table's steps leave as it is -/
theorem mComes_k (a n b y z : Int) (M : Md) : m_now (mComes a n b y z M) = m_now M ∧ m_caller (mComes a n b y z M) = m_caller M ∧ m_following (mComes a n b y z M) = m_following M ∧ m_firstCaller (mComes a n b y z M) = m_firstCaller M ∧ m_lastCaller (mComes a n b y z M) = m_lastCaller M ∧ m_callers (mComes a n b y z M) = m_callers M := by
  unfold mComes; split <;> exact ⟨rfl, rfl, rfl, rfl, rfl, rfl⟩
theorem mAll_k (a m x y z : Int) (M : Md) : m_now (mAll a m x y z M) = m_now M ∧ m_caller (mAll a m x y z M) = m_caller M ∧ m_following (mAll a m x y z M) = m_following M ∧ m_firstCaller (mAll a m x y z M) = m_firstCaller M ∧ m_lastCaller (mAll a m x y z M) = m_lastCaller M ∧ m_callers (mAll a m x y z M) = m_callers M := by
  refine it_inv (fun _ X => m_now X = m_now M ∧ m_caller X = m_caller M ∧ m_following X = m_following M ∧ m_firstCaller X = m_firstCaller M ∧ m_lastCaller X = m_lastCaller M ∧ m_callers X = m_callers M) (b := 8) 8 0 M (by omega) ⟨rfl, rfl, rfl, rfl, rfl, rfl⟩ (fun j X h1 h2 hX => ?_)
  show m_now (mAllF a m x y z j X) = _ ∧ _
  unfold mAllF
  split
  · obtain ⟨k1, k2, k3, k4, k5, k6⟩ := mComes_k a m j y z X
    exact ⟨k1.trans hX.1, k2.trans hX.2.1, k3.trans hX.2.2.1, k4.trans hX.2.2.2.1, k5.trans hX.2.2.2.2.1, k6.trans hX.2.2.2.2.2⟩
  · exact hX

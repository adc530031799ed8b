/-! the reference: origins, summary, witness, digest as functions (pure) -/
def mOrg (n a : Int) (X : Md) : Md := mFl 1536 0 (mComes a n a (-1) (-1) (mClr X))
theorem mOrg_w {N : Int → Int} {X : Md} {n a : Int} (hN : nOk N) (h : mOk X) (hm : m_now X = N) (hn : 0 ≤ n ∧ n < N 1) (ha : 0 ≤ a ∧ a < 8) : wV N 0 (mComes a n a (-1) (-1) (mClr X)) ∧ mN (mComes a n a (-1) (-1) (mClr X)) = mN X := by
  have v := mClr_v h hm
  have hE0 : m_entries (mClr X) = 0 := rfl
  have g := vV_comes (a := a) (n := n) (b := a) (y := -1) (z := -1) hN v ha hn ha (by omega) (by omega) (fun _ => rfl)
  have hE := g.1.2.1.2.2.2.2.2.2.2.2.1
  have hc : m_callers (mComes a n a (-1) (-1) (mClr X)) = 0 := mCa_n (mComes_Ca a n a (-1) (-1) (mClr X))
  have hs := sS_r N (m_place (mComes a n a (-1) (-1) (mClr X))) 0 (N 2).toNat 0
  exact ⟨⟨g.1, ⟨Int.le_refl _, hE.1⟩, by omega⟩, g.2.2.2.2⟩
theorem mOrg_v {N : Int → Int} {X : Md} {n a : Int} (hN : nOk N) (hw : nWf N) (h : mOk X) (hm : m_now X = N) (hn : 0 ≤ n ∧ n < N 1) (ha : 0 ≤ a ∧ a < 8) : vV N (mOrg n a X) ∧ mN (mOrg n a X) = mN X := by
  have a1 := mOrg_w (a := a) hN h hm hn ha
  have b := wV_Fl hN hw 1536 0 _ a1.1
  exact ⟨b.1, b.2.2.2.2.trans a1.2⟩
def mOrF (N : Int → Int) (n f : Int) (a : Int) (s : Int × Md) : Int × Md := (bO s.1 (if bA (hHeld (m_place (mOrg (N 4) a s.2)) n / p2 f) 1 = 1 then p2 a else 0), mOrg (N 4) a s.2)
def mOrAll (n f : Int) (M : Md) : Int × Md := it (mOrF (m_now M) n f) 8 0 (0, M)
def mOrigins (n f : Int) (M : Md) : Int × Md := if (0 ≤ n ∧ n ≤ m_now M 1 - 1) ∧ (0 ≤ f ∧ f ≤ 7) then ((mOrAll n f M).1, ms_known (mOrAll n f M).2 0) else (-2, mBump 0 M)
def mSumI (K : Md) (e b q c : Int) (f r : Int) : Int := bO r (if bA (m_now K (62 + 27 * e + 3 + 8 * 1 + b) / p2 c) 1 = 1 ∧ 0 < m_place K ((8 * m_now K (4 + 2 * q + 1) + c) * 8 + f) then m_now K (62 + 27 * e + 3 + 8 * 2 + f) else 0)
def mSumR (K : Md) (e b q : Int) : Int := it (fun c r => it (mSumI K e b q c) 8 0 r) 8 0 0
def mSumK (e b : Int) (M : Md) : Md := mFilled (m_now M (4 + 2 * m_now M (62 + 27 * e + 2))) (m_now M (62 + 27 * e + 3 + 8 * 1 + b)) M
def mSummary (e b : Int) (M : Md) : Int × Md := if (0 ≤ e ∧ e ≤ m_now M 2 - 1) ∧ (0 ≤ b ∧ b ≤ 7) then (if m_now M (62 + 27 * e + 2) = -1 then (-3, mBump 1 M) else (mSumR (mSumK e b M) e b (m_now M (62 + 27 * e + 2)), ms_known (mSumK e b M) 0)) else (-2, mBump 0 M)
def mFstF (K : Md) (n f : Int) (a x : Int) : Int := if 0 < m_place K ((8 * n + a) * 8 + f) ∧ m_place K ((8 * n + a) * 8 + f) < x then m_place K ((8 * n + a) * 8 + f) else x
def mFst (K : Md) (n f : Int) : Int := it (mFstF K n f) 8 0 1537
def mWitA (S : Md) (i : Int) : Int := if i = -1 then m_told S else if i < m_told S then m_pairs S i else -1
def mWitness (n f i : Int) (M : Md) : Int × Md := if (0 ≤ n ∧ n ≤ m_now M 1 - 1) ∧ (0 ≤ f ∧ f ≤ 7) ∧ -1 ≤ i then (if 1536 < mFst (mKn M) n f then (-1, mKn M) else (mWitA (mSp (mFst (mKn M) n f - 1) (mKn M)) i, mSp (mFst (mKn M) n f - 1) (mKn M))) else (-2, mBump 0 M)
theorem mKn_K (M : Md) : mKn (mKn M) = mKn M := by
  by_cases h : m_known M = 0
  · have e : m_known (mKn M) = 1 := by
      unfold mKn; rw [if_pos h]
    exact if_neg (by rw [e]; decide)
  · have e : mKn M = M := if_neg h
    rw [e, e]
theorem mReached_q {K : Md} (hN : nOk (m_now K)) : 0 ≤ mReached K ∧ mReached K ≤ 24 := by
  have h1 := hN.2.1
  unfold mReached
  have := it_inv (f := fun k r => r + bA (hHeld (m_place K) k) 1) (fun k r => 0 ≤ r ∧ r ≤ k) (b := m_now K 1) (m_now K 1).toNat 0 0 (by omega) (by omega) (fun j r j0 j1 hr => by
    have b0 := bA_0 (hHeld (m_place K) j) 1
    have b1 : bA (hHeld (m_place K) j) 1 ≤ 1 := by
      rw [tb_odd (hHeld_q (m_place K) j).1]
      split <;> omega
    show 0 ≤ r + bA (hHeld (m_place K) j) 1 ∧ r + bA (hHeld (m_place K) j) 1 ≤ j + 1
    omega)
  omega
theorem mCountOf_q {K : Md} {w : Int} (hM : mOk K) (hN : nOk (m_now K)) (hw : 0 ≤ w ∧ w ≤ 5) : 0 ≤ mCountOf K w ∧ mCountOf K w ≤ 2000 := by
  have hE := hM.2.2.2.2.2.2.2.2.1
  have hr := mReached_q hN
  have h0 := hN.1
  have h1 := hN.2.1
  have h2 := hN.2.2.1
  have h3 := hN.2.2.2.1
  unfold mCountOf
  split
  · have : w = 0 ∨ w = 1 ∨ w = 2 ∨ w = 3 := by omega
    rcases this with rfl | rfl | rfl | rfl <;> omega
  · split <;> omega
def gTold (M : Md) (h : Int) : Int := it (fun k h => 31 * h + mTold M k) 5 0 h
def gCount (K : Md) (h : Int) : Int := it (fun k h => 31 * h + mCountOf K k) 6 0 h
def gNodeF (K : Md) (n h : Int) : Int := 31 * (31 * (31 * (31 * h + m_now K (14 + 2 * n)) + m_now K (14 + 2 * n + 1)) + hHeld (m_place K) n) + m_loose K n
def gNodes (K : Md) (h : Int) : Int := it (gNodeF K) (m_now K 1).toNat 0 h
def gEdgeA (K : Md) (e h : Int) : Int := it (fun k h => 31 * h + m_now K (62 + 27 * e + k)) 3 0 h
def gEdgeB (K : Md) (e h : Int) : Int := it (fun k h => 31 * h + m_now K (62 + 27 * e + 3 + k)) (if m_now K (62 + 27 * e + 2) = -1 then 8 else 24 : Int).toNat 0 h
def gEdges (K : Md) (h : Int) : Int := it (fun e h => gEdgeB K e (gEdgeA K e h)) (m_now K 2).toNat 0 h
def mDigest (M : Md) : Int := gEdges (mLo (mKn M)) (gNodes (mLo (mKn M)) (gCount (mKn M) (gTold M 1807)))

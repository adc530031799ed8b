/-! the reference: an empty table, what comes first, what is known (pure) -/
theorem it_put {v : Int} (n : Nat) : ∀ (i : Int) (f : Int → Int) (j : Int), it (fun k (f : Int → Int) => up f k v) n i f j = if i ≤ j ∧ j < i + n then v else f j := by
  induction n with
  | zero => intro i f j; rw [it_0, if_neg (by omega)]
  | succ n ih =>
    intro i f j
    rw [it_s, ih]
    by_cases h : i + 1 ≤ j ∧ j < i + 1 + n
    · rw [if_pos h, if_pos (by omega)]
    · rw [if_neg h]
      by_cases hj : j = i
      · rw [hj, up_s, if_pos (by omega)]
      · rw [up_n _ _ hj, if_neg (by omega)]
theorem cPl_a (f : Int → Int) (j : Int) : cPl f j = if 0 ≤ j ∧ j < 1536 then 0 else f j := by
  have := it_put (v := 0) 1536 0 f j
  unfold cPl
  rw [this]
  by_cases h : 0 ≤ j ∧ j < 1536
  · rw [if_pos h, if_pos (by omega)]
  · rw [if_neg h, if_neg (by omega)]
theorem cCa_a (f : Int → Int) (j : Int) : cCa f j = if 0 ≤ j ∧ j < 40 then -1 else f j := by
  have := it_put (v := -1) 40 0 f j
  unfold cCa
  rw [this]
  by_cases h : 0 ≤ j ∧ j < 40
  · rw [if_pos h, if_pos (by omega)]
  · rw [if_neg h, if_neg (by omega)]
def cPz (f : Int → Int) : Int → Int := fun j => if 0 ≤ j ∧ j < 1536 then 0 else f j
def cCz (f : Int → Int) : Int → Int := fun j => if 0 ≤ j ∧ j < 40 then -1 else f j
theorem cPl_z (f : Int → Int) : cPl f = cPz f := funext (fun j => cPl_a f j)
theorem cCa_z (f : Int → Int) : cCa f = cCz f := funext (fun j => cCa_a f j)
theorem cPz_a (f : Int → Int) {j : Int} (h0 : 0 ≤ j) (h1 : j < 1536) : cPz f j = 0 := if_pos ⟨h0, h1⟩
theorem cCz_a (f : Int → Int) {j : Int} (h0 : 0 ≤ j) (h1 : j < 40) : cCz f j = -1 := if_pos ⟨h0, h1⟩
theorem cntZ_z {f : Int → Int} (n : Nat) (h : ∀ k : Int, 0 ≤ k → k < n → f k = 0) : cntZ f n = 0 := by
  induction n with
  | zero => rfl
  | succ n ih =>
    unfold cntZ
    rw [ih (fun k k0 k1 => h k k0 (by omega)), if_pos (h (n : Int) (by omega) (by omega))]; rfl
def mClr (M : Md) : Md := ms_callers (ms_entries (ms_lastCaller (ms_firstCaller (ms_place M (cPz (m_place M))) (cCz (m_firstCaller M))) (cCz (m_lastCaller M))) 0) 0
theorem mClr_ok {M : Md} (h : mOk M) : mOk (mClr M) := by
  obtain ⟨h1, h2, h3, h4, h5, h6, h7, h8, h9, h10, h11, h12, h13, h14, h15, h16, h17, h18, h19, h20, h21, h22, h23, h24, h25⟩ := h
  refine ⟨h1, h2, fun j j0 j1 => ?_, h4, h5, h6, h7, h8, ⟨show (0 : Int) ≤ 0 by omega, show (0 : Int) ≤ 1536 by omega⟩, h10, h11, fun j j0 j1 => ?_, fun j j0 j1 => ?_, ⟨show (0 : Int) ≤ 0 by omega, show (0 : Int) ≤ 16384 by omega⟩, h15, h16, h17, h18, h19, h20, h21, h22, h23, h24, h25⟩
  · show 0 ≤ cPz (m_place M) j ∧ cPz (m_place M) j ≤ 1536
    rw [cPz_a _ j0 j1]; omega
  · show -1 ≤ cCz (m_firstCaller M) j ∧ cCz (m_firstCaller M) j ≤ 16383
    rw [cCz_a _ j0 j1]; omega
  · show -1 ≤ cCz (m_lastCaller M) j ∧ cCz (m_lastCaller M) j ≤ 16383
    rw [cCz_a _ j0 j1]; omega
theorem mClr_N (M : Md) : mN (mClr M) = mN M := rfl
theorem mClr_v {N : Int → Int} {M : Md} (h : mOk M) (hn : m_now M = N) : vV N (mClr M) := by
  refine ⟨?_, mClr_ok h, hn, ⟨fun i i0 i1 => absurd (show i < 0 from i1) (by omega), fun k k0 k1 => Or.inl ?_⟩, fun _ => 0, fun k k0 k1 => absurd (show k < 0 from k1) (by omega), fun q q0 q1 => ⟨Or.inl ⟨?_, fun k k0 k1 => absurd (show k < 0 from k1) (by omega)⟩, Or.inl ⟨?_, fun k k0 k1 => absurd (show k < 0 from k1) (by omega)⟩⟩⟩
  · exact cntZ_z 1536 (fun k k0 k1 => by show cPz (m_place M) k = 0; exact cPz_a _ k0 (by omega))
  · show cPz (m_place M) k = 0
    exact cPz_a _ k0 k1
  · show cCz (m_firstCaller M) q = -1
    exact cCz_a _ q0 q1
  · show cCz (m_lastCaller M) q = -1
    exact cCz_a _ q0 q1
def mSeedF (n x : Int) (a : Int) (X : Md) : Md := if bA (x / p2 a) 1 = 1 then mComes a n a (-1) (-1) X else X
def mSeeds (n x : Int) (M : Md) : Md := it (mSeedF n x) 8 0 (mClr M)
theorem vV_seedF {N : Int → Int} {X : Md} {n x a : Int} (hN : nOk N) (h : vV N X) (hn : 0 ≤ n ∧ n < N 1) (ha : 0 ≤ a ∧ a < 8) : vV N (mSeedF n x a X) ∧ mEx X (mSeedF n x a X) ∧ mCa (mSeedF n x a X) = mCa X := by
  have hE := h.2.1.2.2.2.2.2.2.2.2.1
  unfold mSeedF
  split
  · have := vV_comes (a := a) (n := n) (b := a) (y := -1) (z := -1) hN h ha hn ha (by omega) (by omega) (fun _ => rfl)
    exact ⟨this.1, this.2, mComes_Ca _ _ _ _ _ _⟩
  · exact ⟨h, mEx_rf X, rfl⟩
theorem wV_seeds {N : Int → Int} {M : Md} {n x : Int} (hN : nOk N) (h : mOk M) (hm : m_now M = N) (hn : 0 ≤ n ∧ n < N 1) : wV N 0 (mSeeds n x M) ∧ mN (mSeeds n x M) = mN M := by
  have := it_inv (f := mSeedF n x) (fun _ Y => vV N Y ∧ mEx (mClr M) Y ∧ mCa Y = mCa (mClr M)) (b := 8) 8 0 (mClr M) (by omega) ⟨mClr_v h hm, mEx_rf _, rfl⟩ (fun j Y j0 j1 hY => by
    have g := vV_seedF (n := n) (x := x) (a := j) hN hY.1 hn (by omega)
    exact ⟨g.1, mEx_tr hY.2.1 g.2.1, g.2.2.trans hY.2.2⟩)
  have hE := this.1.2.1.2.2.2.2.2.2.2.2.1
  have hc : m_callers (mSeeds n x M) = 0 := mCa_n this.2.2
  have hs := sS_r N (m_place (mSeeds n x M)) 0 (N 2).toNat 0
  exact ⟨⟨this.1, ⟨Int.le_refl _, hE.1⟩, by omega⟩, this.2.1.2.2.2⟩
def mFilled (n x : Int) (M : Md) : Md := mFl 1536 0 (mSeeds n x M)
theorem mFilled_v {N : Int → Int} {M : Md} {n x : Int} (hN : nOk N) (hw : nWf N) (h : mOk M) (hm : m_now M = N) (hn : 0 ≤ n ∧ n < N 1) : vV N (mFilled n x M) ∧ mN (mFilled n x M) = mN M := by
  have a := wV_seeds (x := x) hN h hm hn
  have b := wV_Fl hN hw 1536 0 _ a.1
  exact ⟨b.1, b.2.2.2.2.trans a.2⟩
def mKn (M : Md) : Md := if m_known M = 0 then ms_known (mFilled (m_now M 4) (m_now M 3) M) 1 else M
theorem mKn_ok {M : Md} (h : mOk M) (hN : nOk (m_now M)) (hw : nWf (m_now M)) : mOk (mKn M) ∧ m_now (mKn M) = m_now M := by
  unfold mKn
  split
  · have e := nEnd_q (m_now M) 4 hN (by omega)
    have w := hw.2.1 0 (by omega) (by have := hw.1; omega)
    have g := mFilled_v (N := m_now M) (M := M) (n := m_now M 4) (x := m_now M 3) hN hw h rfl ⟨e.1, w.1⟩
    obtain ⟨h1, h2, h3, h4, h5, h6, h7, h8, h9, h10, h11, h12, h13, h14, h15, h16, h17, h18, h19, h20, h21, h22, h23, h24, h25⟩ := g.1.2.1
    exact ⟨⟨h1, h2, h3, h4, h5, h6, h7, h8, h9, h10, h11, h12, h13, h14, ⟨show (0 : Int) ≤ 1 by omega, show (1 : Int) ≤ 1 by omega⟩, h16, h17, h18, h19, h20, h21, h22, h23, h24, h25⟩, g.1.2.2.1⟩
  · exact ⟨h, rfl⟩
theorem hHeld_q (pl : Int → Int) (n : Int) : 0 ≤ hHeld pl n ∧ hHeld pl n < 256 := by
  unfold hHeld
  refine it_inv (fun _ r => 0 ≤ r ∧ r < 256) (b := 8) 8 0 0 (by omega) (by omega) (fun a r a0 a1 hr => ?_)
  refine it_inv (fun _ s => 0 ≤ s ∧ s < 256) (b := 8) 8 0 r (by omega) hr (fun b s b0 b1 hs => ?_)
  have hp := p2_0 b
  have hp2 := p2_8 (k := b) (by omega)
  refine ⟨bO_0 _ _, bO_8 hs.2 ?_⟩
  split <;> omega
def mReached (K : Md) : Int := it (fun k r => r + bA (hHeld (m_place K) k) 1) (m_now K 1).toNat 0 0
def mCountOf (K : Md) (w : Int) : Int := if w < 4 then m_now K w else if w = 4 then m_entries K else mReached K
def mCount (w : Int) (M : Md) : Int × Md := if 0 ≤ w ∧ w ≤ 5 then (mCountOf (mKn M) w, mKn M) else (-2, mBump 0 M)
def mHolds (n : Int) (M : Md) : Int × Md := if 0 ≤ n ∧ n ≤ m_now M 1 - 1 then (hHeld (m_place (mKn M)) n, mKn M) else (-2, mBump 0 M)
def mEntA (K : Md) (i w : Int) : Int := if m_entries K ≤ i then -1 else if w = 0 then m_now K (14 + 2 * m_node K i) else if w = 1 then m_startFact K i else if w = 2 then m_node K i else m_fact K i
def mEntry (i w : Int) (M : Md) : Int × Md := if 0 ≤ i ∧ 0 ≤ w ∧ w ≤ 3 then (mEntA (mKn M) i w, mKn M) else (-2, mBump 0 M)

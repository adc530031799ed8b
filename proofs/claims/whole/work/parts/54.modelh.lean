theorem mNotes_ok {M : Md} {q c t e : Int} (h : mC M) (ho : mOk M) (hq : 0 ≤ q ∧ q < 5) (hc : 0 ≤ c ∧ c < 8) (ht : 0 ≤ t ∧ t < 1536) (he : 0 ≤ e ∧ e < 32) (hca : m_callers M < 16384) : mC (mNotes q c t e M) ∧ mOk (mNotes q c t e M) ∧ m_now (mNotes q c t e M) = m_now M ∧ m_callers (mNotes q c t e M) = m_callers M + 1 := by
  obtain ⟨h1, h2, h3, h4, h5, h6, h7, h8, h9, h10, h11, h12, h13, h14, h15, h16, h17, h18, h19, h20, h21, h22, h23, h24, h25⟩ := ho
  unfold mNotes
  split
  · exact ⟨h, ⟨h1, h2, h3, h4, h5, h6, h7, h8, h9, up_rng h10 _ (by omega), up_rng h11 _ (by omega), up_rng h12 _ (by omega), up_rng h13 _ (by omega), ⟨by show 0 ≤ m_callers M + 1; omega, by show m_callers M + 1 ≤ 16384; omega⟩, h15, h16, h17, h18, h19, h20, h21, h22, h23, h24, h25⟩, rfl, rfl⟩
  · exact ⟨h, ⟨h1, h2, h3, h4, h5, h6, h7, h8, h9, up_rng h10 _ (by omega), up_rng (up_rng h11 _ (by omega)) _ (by omega), h12, up_rng h13 _ (by omega), ⟨by show 0 ≤ m_callers M + 1; omega, by show m_callers M + 1 ≤ 16384; omega⟩, h15, h16, h17, h18, h19, h20, h21, h22, h23, h24, h25⟩, rfl, rfl⟩
def mTCG (t e c ex : Int) (f : Int) (X : Md) : Md := if 0 ≤ m_place X ((8 * ex + c) * 8 + f) - 1 then mAll (m_startFact X t) (m_now X (62 + 27 * e + 1)) (m_now X (62 + 27 * e + 3 + 8 * 2 + f)) t (m_place X ((8 * ex + c) * 8 + f) - 1) X else X
def mTCF (t e q ex : Int) (c : Int) (X : Md) : Md := if bA (m_now X (62 + 27 * e + 3 + 8 * 1 + m_fact X t) / p2 c) 1 = 1 then it (mTCG t e c ex) 8 0 (mNotes q c t e (mComes c (m_now X (4 + 2 * q)) c t (-1) X)) else X
def mTakesCall (t e : Int) (M : Md) : Md := it (mTCF t e (m_now M (62 + 27 * e + 2)) (m_now M (4 + 2 * m_now M (62 + 27 * e + 2) + 1))) 8 0 M
/-- the state of the reference's table on the way -/
def mI (N : Int → Int) (n : Int) (X : Md) : Prop := mC X ∧ mOk X ∧ m_now X = N ∧ m_callers X ≤ n
theorem mTCG_ok {N : Int → Int} {n : Int} {X : Md} {t e c ex f : Int} (hN : nOk N) (h : mI N n X) (ht : 0 ≤ t ∧ t < 1536) (he : 0 ≤ e ∧ e < 32) (hc : 0 ≤ c ∧ c < 8) (hex : 0 ≤ ex ∧ ex < 24) (hf : 0 ≤ f ∧ f < 8) : mI N n (mTCG t e c ex f X) := by
  obtain ⟨h1, h2, h3, h4⟩ := h
  unfold mTCG
  split
  · have ha := h2.2.2.2.1 t (by omega) (by omega)
    have hp := h2.2.2.1 ((8 * ex + c) * 8 + f) (by omega) (by omega)
    have hm := nEdge_q N e 1 hN he (by omega)
    have k := mAll_k (m_startFact X t) (m_now X (62 + 27 * e + 1)) (m_now X (62 + 27 * e + 3 + 8 * 2 + f)) t (m_place X ((8 * ex + c) * 8 + f) - 1) X
    have o := mAll_ok (a := m_startFact X t) (m := m_now X (62 + 27 * e + 1)) (x := m_now X (62 + 27 * e + 3 + 8 * 2 + f)) (y := t) (z := m_place X ((8 * ex + c) * 8 + f) - 1) h1 h2 (by omega) (by rw [h3]; omega) (by omega) (by omega)
    exact ⟨o.1, o.2, k.1.trans h3, by rw [k.2.2.2.2.2]; exact h4⟩
  · exact ⟨h1, h2, h3, h4⟩
theorem mTCN_ok {N : Int → Int} {n : Int} {X : Md} {t e q c : Int} (hN : nOk N) (h : mI N n X) (hn : n < 16384) (ht : 0 ≤ t ∧ t < 1536) (he : 0 ≤ e ∧ e < 32) (hq : 0 ≤ q ∧ q < 5) (hc : 0 ≤ c ∧ c < 8) : mI N n (mComes c (m_now X (4 + 2 * q)) c t (-1) X) ∧ mI N (n + 1) (mNotes q c t e (mComes c (m_now X (4 + 2 * q)) c t (-1) X)) := by
  obtain ⟨h1, h2, h3, h4⟩ := h
  have hen := nEnd_q N (4 + 2 * q) hN (by omega)
  have hcc := mComes_C (a := c) (n := m_now X (4 + 2 * q)) (b := c) (y := t) (z := -1) h1 h2 hc (by rw [h3]; omega) hc
  have hco := mComes_ok (a := c) (n := m_now X (4 + 2 * q)) (b := c) (y := t) (z := -1) h1 h2 hc (by rw [h3]; omega) hc (by omega) (by omega)
  have k := mComes_k c (m_now X (4 + 2 * q)) c t (-1) X
  have e1 : m_callers (mComes c (m_now X (4 + 2 * q)) c t (-1) X) ≤ n := by rw [k.2.2.2.2.2]; exact h4
  have o := mNotes_ok (q := q) (c := c) (t := t) (e := e) hcc hco hq hc ht he (by omega)
  exact ⟨⟨hcc, hco, k.1.trans h3, e1⟩, o.1, o.2.1, o.2.2.1.trans (k.1.trans h3), by rw [o.2.2.2]; omega⟩
theorem mTCF_ok {N : Int → Int} {n : Int} {X : Md} {t e q ex c : Int} (hN : nOk N) (h : mI N n X) (hn : n < 16384) (ht : 0 ≤ t ∧ t < 1536) (he : 0 ≤ e ∧ e < 32) (hq : 0 ≤ q ∧ q < 5) (hex : 0 ≤ ex ∧ ex < 24) (hc : 0 ≤ c ∧ c < 8) : mI N (n + 1) (mTCF t e q ex c X) := by
  unfold mTCF
  split
  · exact it_inv (fun _ Y => mI N (n + 1) Y) (b := 8) 8 0 _ (by omega) (mTCN_ok hN h hn ht he hq hc).2 (fun j Y j0 j1 hY => mTCG_ok hN hY ht he hc hex (by omega))
  · exact ⟨h.1, h.2.1, h.2.2.1, by have := h.2.2.2; omega⟩
theorem mTakesCall_ok {N : Int → Int} {n : Int} {X : Md} {t e : Int} (hN : nOk N) (h : mI N n X) (hn : n + 8 ≤ 16384) (ht : 0 ≤ t ∧ t < 1536) (he : 0 ≤ e ∧ e < 32) (hq : 0 ≤ N (62 + 27 * e + 2)) : mI N (n + 8) (mTakesCall t e X) := by
  have h2 := nEdge_q N e 2 hN he (by omega)
  have hex := nEnd_q N (4 + 2 * N (62 + 27 * e + 2) + 1) hN (by omega)
  unfold mTakesCall
  rw [h.2.2.1]
  have := it_inv (f := mTCF t e (N (62 + 27 * e + 2)) (N (4 + 2 * N (62 + 27 * e + 2) + 1))) (fun c Y => mI N (n + c) Y) (b := 8) 8 0 X (by omega) (by rw [Int.add_zero]; exact h) (fun j Y j0 j1 hY => by
    have := mTCF_ok (t := t) (e := e) (q := N (62 + 27 * e + 2)) (ex := N (4 + 2 * N (62 + 27 * e + 2) + 1)) (c := j) hN hY (by omega) ht he (by omega) (by omega) (by omega)
    rw [← Int.add_assoc]; exact this)
  exact this

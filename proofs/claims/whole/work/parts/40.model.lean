/-! the reference: its row of numbers 'now' (a function f), what is kept, what is refused -/
def nOk (f : Int → Int) : Prop := (0 ≤ f 0 ∧ f 0 ≤ 5) ∧ (0 ≤ f 1 ∧ f 1 ≤ 24) ∧ (0 ≤ f 2 ∧ f 2 ≤ 32) ∧ (0 ≤ f 3 ∧ f 3 ≤ 255) ∧ (∀ j : Int, 4 ≤ j → j < 14 → 0 ≤ f j ∧ f j ≤ 23) ∧ (∀ n : Int, 0 ≤ n → n < 24 → (0 ≤ f (14 + 2 * n) ∧ f (14 + 2 * n) ≤ 4) ∧ (0 ≤ f (14 + 2 * n + 1) ∧ f (14 + 2 * n + 1) ≤ 2)) ∧ (∀ e : Int, 0 ≤ e → e < 32 → (0 ≤ f (62 + 27 * e) ∧ f (62 + 27 * e) ≤ 23) ∧ (0 ≤ f (62 + 27 * e + 1) ∧ f (62 + 27 * e + 1) ≤ 23) ∧ (-1 ≤ f (62 + 27 * e + 2) ∧ f (62 + 27 * e + 2) ≤ 4) ∧ ∀ k : Int, 0 ≤ k → k < 24 → 0 ≤ f (62 + 27 * e + 3 + k) ∧ f (62 + 27 * e + 3 + k) ≤ 255)
theorem nProc_q (f : Int → Int) (n : Int) (h : nOk f) (hn : 0 ≤ n ∧ n < 24) : 0 ≤ f (14 + 2 * n) ∧ f (14 + 2 * n) ≤ 4 := (h.2.2.2.2.2.1 n hn.1 hn.2).1
theorem nSort_q (f : Int → Int) (n : Int) (h : nOk f) (hn : 0 ≤ n ∧ n < 24) : 0 ≤ f (14 + 2 * n + 1) ∧ f (14 + 2 * n + 1) ≤ 2 := (h.2.2.2.2.2.1 n hn.1 hn.2).2
theorem nEdge_q (f : Int → Int) (e w : Int) (h : nOk f) (he : 0 ≤ e ∧ e < 32) (hw : 0 ≤ w ∧ w < 3) : (-1 ≤ f (62 + 27 * e + w) ∧ f (62 + 27 * e + w) ≤ 23) ∧ (w < 2 → 0 ≤ f (62 + 27 * e + w)) ∧ (w = 2 → f (62 + 27 * e + w) ≤ 4) := by
  obtain ⟨h0, h1, h2, -⟩ := h.2.2.2.2.2.2 e he.1 he.2
  have : w = 0 ∨ w = 1 ∨ w = 2 := by omega
  rcases this with rfl | rfl | rfl
  · rw [show 62 + 27 * e + 0 = 62 + 27 * e by omega]; omega
  · omega
  · omega
theorem nFlow_q (f : Int → Int) (e w a : Int) (h : nOk f) (he : 0 ≤ e ∧ e < 32) (hw : 0 ≤ w ∧ w < 3) (ha : 0 ≤ a ∧ a < 8) : 0 ≤ f (62 + 27 * e + 3 + 8 * w + a) ∧ f (62 + 27 * e + 3 + 8 * w + a) ≤ 255 := by
  have := (h.2.2.2.2.2.2 e he.1 he.2).2.2.2 (8 * w + a) (by omega) (by omega)
  rw [show 62 + 27 * e + 3 + 8 * w + a = 62 + 27 * e + 3 + (8 * w + a) by omega]; exact this
theorem nEnd_q (f : Int → Int) (j : Int) (h : nOk f) (hj : 4 ≤ j ∧ j < 14) : 0 ≤ f j ∧ f j ≤ 23 := h.2.2.2.2.1 j hj.1 hj.2
def nNode (f : Int → Int) (p s : Int) : Int → Int := up (up (up f (14 + 2 * f 1) p) (14 + 2 * f 1 + 1) s) 1 (up (up f (14 + 2 * f 1) p) (14 + 2 * f 1 + 1) s 1 + 1)
def nP1 (f : Int → Int) : Int → Int := up (nNode f (f 0) 0) (4 + 2 * f 0) (f 1)
def nP2 (f : Int → Int) : Int → Int := up (nNode (nP1 f) (f 0) 1) (4 + 2 * f 0 + 1) (nP1 f 1)
def nAddProc (f : Int → Int) : Int × (Int → Int) := if f 0 = 5 ∨ 24 < f 1 + 2 then (-4, f) else (f 0, up (nP2 f) 0 (nP2 f 0 + 1))
def nAddAny (f : Int → Int) (p : Int) : Int × (Int → Int) := if ¬ (0 ≤ p ∧ p ≤ f 0 - 1) then (-2, f) else if f 1 = 24 then (-4, f) else (f 1, nNode f p 2)
def nE1 (f : Int → Int) (n m q : Int) : Int → Int := up (up (up f (62 + 27 * f 2) n) (62 + 27 * f 2 + 1) m) (62 + 27 * f 2 + 2) q
def nE2 (f : Int → Int) (n m q : Int) : Int → Int := it (fun k h => up h (62 + 27 * f 2 + 3 + k) (p2 (k % 8))) 24 0 (nE1 f n m q)
def nAddEdge (f : Int → Int) (n m q : Int) : Int × (Int → Int) := if ((0 ≤ n ∧ n ≤ f 1 - 1) ∧ (0 ≤ m ∧ m ≤ f 1 - 1) ∧ (q = -1 ∨ (0 ≤ q ∧ q ≤ f 0 - 1))) ∧ f (14 + 2 * n) = f (14 + 2 * m) ∧ f (14 + 2 * n + 1) ≠ 1 ∧ f (14 + 2 * m + 1) ≠ 0 then
  (if f 2 = 32 then (-4, f) else (f 2, up (nE2 f n m q) 2 (nE2 f n m q 2 + 1))) else (-2, f)
def nAddCall (f : Int → Int) (n q m : Int) : Int × (Int → Int) := if 0 ≤ q ∧ q ≤ f 0 - 1 then nAddEdge f n m q else (-2, f)
def nSetFlow (f : Int → Int) (e w a v : Int) : Int × (Int → Int) := if ((0 ≤ e ∧ e ≤ f 2 - 1) ∧ (0 ≤ w ∧ w ≤ (if f (62 + 27 * e + 2) = -1 then 0 else 2)) ∧ (0 ≤ a ∧ a ≤ 7)) ∧ (0 ≤ v ∧ v ≤ 255) ∧ (bA v 1 = if a = 0 then 1 else 0) then
  (f (62 + 27 * e + 3 + 8 * w + a), up f (62 + 27 * e + 3 + 8 * w + a) v) else (-2, f)
def nSetStart (f : Int → Int) (v : Int) : Int × (Int → Int) := if (0 ≤ v ∧ v ≤ 255) ∧ bA v 1 ≠ 0 then (f 3, up f 3 v) else (-2, f)
def nShift (f : Int → Int) (e : Int) : Int → Int := it (fun c f => up f c (f (c + 27))) (899 - (62 + 27 * e)).toNat (62 + 27 * e) f
def nCut (f : Int → Int) (e : Int) : Int × (Int → Int) := if 0 ≤ e ∧ e ≤ f 2 - 1 then (up (nShift f e) 2 (nShift f e 2 - 1) 2, up (nShift f e) 2 (nShift f e 2 - 1)) else (-2, f)
def nPut (slot : Int) (f K : Int → Int) : Int → Int := it (fun c K => up K (926 * slot + c) (f c)) 926 0 K
def nTake (slot : Int) (K f : Int → Int) : Int → Int := it (fun c f => up f c (K (926 * slot + c))) 926 0 f
def nLv1 (K : Int → Int) : Int → Int := it (fun c K => up K c (K (c + 926))) 3704 0 K
def nLv2 (s : Int) (K : Int → Int) : Int → Int := it (fun c K => up K (926 * s + c) (K (4630 + c))) 926 0 K
def mLeave (M : Md) : Md := if m_states M = 5 then ms_known (ms_states (ms_kept M (nLv2 4 (nLv1 (m_kept M)))) 5) 0 else ms_known (ms_states (ms_kept M (nLv2 (m_states M) (m_kept M))) (m_states M + 1)) 0
def mBump (i : Int) (M : Md) : Md := ms_refused M (up (m_refused M) i (m_refused M i + 1))
def mCounted (w : Int) (M : Md) : Md := if w = -2 then mBump 0 M else if w = -3 then mBump 1 M else if w = -4 then mBump 2 M else M
def mDone (w : Int) (M : Md) : Md := if w < 0 then mCounted w M else mLeave M
def mPuts (M : Md) : Md := ms_kept M (nPut 5 (m_now M) (m_kept M))
def mTakes (slot : Int) (M : Md) : Md := ms_known (ms_now M (nTake slot (m_kept M) (m_now M))) 0
def mBack (M : Md) : Int × Md := if m_states M = 0 then (-3, mBump 1 M) else (m_states M - 1, mTakes (m_states M - 1) (ms_states M (m_states M - 1)))
def mAt (n w : Int) (M : Md) : Int × Md := if (0 ≤ n ∧ n ≤ m_now M 1 - 1) ∧ (0 ≤ w ∧ w ≤ 1) then (m_now M (14 + 2 * n + w), M) else (-2, mBump 0 M)
def mAbout (e w : Int) (M : Md) : Int × Md := if (0 ≤ e ∧ e ≤ m_now M 2 - 1) ∧ (0 ≤ w ∧ w ≤ 2) then (m_now M (62 + 27 * e + w), M) else (-2, mBump 0 M)
def mGoes (e w a : Int) (M : Md) : Int × Md := if (0 ≤ e ∧ e ≤ m_now M 2 - 1) ∧ (0 ≤ w ∧ w ≤ (if m_now M (62 + 27 * e + 2) = -1 then 0 else 2)) ∧ (0 ≤ a ∧ a ≤ 7) then (m_now M (62 + 27 * e + 3 + 8 * w + a), M) else (-2, mBump 0 M)
theorem nNode_1 (f : Int → Int) (p s : Int) (h : 0 ≤ f 1) : nNode f p s 1 = f 1 + 1 := by
  unfold nNode
  rw [up_s, up_n _ _ (by omega), up_n _ _ (by omega)]
theorem nP1_1 (f : Int → Int) (h : 0 ≤ f 1) (h0 : 0 ≤ f 0) : nP1 f 1 = f 1 + 1 := by
  unfold nP1
  rw [up_n _ _ (by omega), nNode_1 f _ _ h]

/-! the reference's step at one entry: functions and ranges -/
def mXS (t k : Int) (X : Md) : Md := mAll (m_startFact X (m_caller X k / 32)) (m_now X (62 + 27 * (m_caller X k % 32) + 1)) (m_now X (62 + 27 * (m_caller X k % 32) + 3 + 8 * 2 + m_fact X t)) (m_caller X k / 32) t X
def mXF (t : Int) : Nat → Int → Md → Md
  | 0, _, X => X
  | n + 1, k, X => if k = -1 then X else mXF t n (m_following X k) (mXS t k X)
def mEC (t e : Int) (X : Md) : Md := if m_now X (62 + 27 * e + 2) = -1 then X else mTakesCall t e X
def mEP (t e : Int) (Y : Md) : Md := mAll (m_startFact Y t) (m_now Y (62 + 27 * e + 1)) (m_now Y (62 + 27 * e + 3 + 8 * 0 + m_fact Y t)) t (-1) Y
def mEF (t n : Int) (e : Int) (X : Md) : Md := if m_now X (62 + 27 * e + 0) = n then mEP t e (mEC t e X) else X
def mTE (t : Int) (M : Md) : Md := if m_now M (14 + 2 * m_node M t + 1) = 1 then mXF t 16384 (m_firstCaller M (8 * m_now M (14 + 2 * m_node M t) + m_startFact M t)) M else it (mEF t (m_node M t)) (m_now M 2).toNat 0 M
def dgE (N : Int → Int) (n : Int) : Nat → Int → Int
  | 0, _ => 0
  | k + 1, e => (if N (62 + 27 * e + 0) = n ∧ N (62 + 27 * e + 2) ≠ -1 then 1 else 0) + dgE N n k (e + 1)
theorem dgE_0 (N : Int → Int) (n : Int) (k : Nat) (e : Int) : 0 ≤ dgE N n k e := by
  induction k generalizing e with
  | zero => exact Int.le_refl 0
  | succ k ih =>
    have := ih (e + 1)
    show 0 ≤ (if N (62 + 27 * e + 0) = n ∧ N (62 + 27 * e + 2) ≠ -1 then 1 else 0) + dgE N n k (e + 1)
    split <;> omega
/-- the callers' lists go up -/
def mOrd (X : Md) : Prop := (∀ k, 0 ≤ k → k < m_callers X → m_following X k = -1 ∨ (k < m_following X k ∧ m_following X k < m_callers X)) ∧ (∀ q, 0 ≤ q → q < 40 → m_firstCaller X q = -1 ∨ (0 ≤ m_firstCaller X q ∧ m_firstCaller X q < m_callers X)) ∧ (∀ q, 0 ≤ q → q < 40 → m_lastCaller X q = -1 ∨ (0 ≤ m_lastCaller X q ∧ m_lastCaller X q < m_callers X))
theorem mXS_ok {X : Md} {t k : Int} (hC : mC X) (hM : mOk X) (hN : nOk (m_now X)) (ht : 0 ≤ t ∧ t < 1536) (hk : 0 ≤ k ∧ k < 16384) : mC (mXS t k X) ∧ mOk (mXS t k X) := by
  have h1 := hM.2.2.2.2.2.2.2.2.2.1 k (by omega) (by omega)
  have h2 := hM.2.2.2.1 (m_caller X k / 32) (by omega) (by omega)
  have h3 := nEdge_q (m_now X) (m_caller X k % 32) 1 hN (by omega) (by omega)
  exact mAll_ok hC hM (by omega) (by omega) (by omega) (by omega)
theorem mEC_ok {N : Int → Int} {n : Int} {X : Md} {t e : Int} (hN : nOk N) (h : mI N n X) (hn : N (62 + 27 * e + 2) ≠ -1 → n + 8 ≤ 16384) (ht : 0 ≤ t ∧ t < 1536) (he : 0 ≤ e ∧ e < 32) : mI N (n + 8 * (if N (62 + 27 * e + 2) = -1 then 0 else 1)) (mEC t e X) := by
  have h2 := nEdge_q N e 2 hN he (by omega)
  unfold mEC
  rw [h.2.2.1]
  by_cases hc : N (62 + 27 * e + 2) = -1
  · rw [if_pos hc, if_pos hc]
    exact ⟨h.1, h.2.1, h.2.2.1, by have := h.2.2.2; omega⟩
  · rw [if_neg hc, if_neg hc]
    exact mTakesCall_ok hN h (hn hc) ht he (by omega)
theorem mEP_ok {N : Int → Int} {n : Int} {Y : Md} {t e : Int} (hN : nOk N) (h : mI N n Y) (ht : 0 ≤ t ∧ t < 1536) (he : 0 ≤ e ∧ e < 32) : mI N n (mEP t e Y) := by
  obtain ⟨h1, h2, h3, h4⟩ := h
  have ha := h2.2.2.2.1 t (by omega) (by omega)
  have hm := nEdge_q N e 1 hN he (by omega)
  have k := mAll_k (m_startFact Y t) (m_now Y (62 + 27 * e + 1)) (m_now Y (62 + 27 * e + 3 + 8 * 0 + m_fact Y t)) t (-1) Y
  have o := mAll_ok (a := m_startFact Y t) (m := m_now Y (62 + 27 * e + 1)) (x := m_now Y (62 + 27 * e + 3 + 8 * 0 + m_fact Y t)) (y := t) (z := -1) h1 h2 (by omega) (by rw [h3]; omega) (by omega) (by omega)
  exact ⟨o.1, o.2, k.1.trans h3, by show m_callers (mAll _ _ _ _ _ _) ≤ _; rw [k.2.2.2.2.2]; exact h4⟩

/-! the reference's answers fit an int; its table's steps as functions -/
theorem nAddProc_a {f : Int → Int} (h : nOk f) : rg (nAddProc f).1 := by
  have h0 := h.1
  unfold nAddProc; split <;> (simp only [rg]; omega)
theorem nAddAny_a {f : Int → Int} {p : Int} (h : nOk f) : rg (nAddAny f p).1 := by
  have h0 := h.2.1
  unfold nAddAny; (repeat' split) <;> (simp only [rg]; omega)
theorem nAddEdge_a {f : Int → Int} {n m q : Int} (h : nOk f) : rg (nAddEdge f n m q).1 := by
  have h0 := h.2.2.1
  unfold nAddEdge; (repeat' split) <;> (simp only [rg]; omega)
theorem nAddCall_a {f : Int → Int} {n q m : Int} (h : nOk f) : rg (nAddCall f n q m).1 := by
  unfold nAddCall; split
  · exact nAddEdge_a h
  · simp only [rg]; omega
theorem nSetFlow_a {f : Int → Int} {e w a v : Int} (h : nOk f) : rg (nSetFlow f e w a v).1 := by
  have h2 := h.2.2.1
  unfold nSetFlow
  by_cases hq : (((0 ≤ e ∧ e ≤ f 2 - 1) ∧ (0 ≤ w ∧ w ≤ (if f (62 + 27 * e + 2) = -1 then 0 else 2)) ∧ (0 ≤ a ∧ a ≤ 7)) ∧ (0 ≤ v ∧ v ≤ 255) ∧ (bA v 1 = if a = 0 then 1 else 0))
  · rw [if_pos hq]
    have hw0 := hq.1.2.1.1
    have hw : w ≤ 2 := by
      have h9 := hq.1.2.1.2
      split at h9 <;> omega
    have h3 := hq.1.1
    have h5 := hq.1.2.2
    have := nFlow_q f e w a h (by omega) (by omega) (by omega)
    simp only [rg]; omega
  · rw [if_neg hq]; simp only [rg]; omega
theorem nSetStart_a {f : Int → Int} {v : Int} (h : nOk f) : rg (nSetStart f v).1 := by
  have h3 := h.2.2.2.1
  unfold nSetStart; split <;> (simp only [rg]; omega)
theorem nShift_2 (f : Int → Int) (e : Int) (he : 0 ≤ e) (c : Int) (hc : c < 62) : nShift f e c = f c := by
  unfold nShift
  by_cases h : 62 + 27 * e ≤ 899
  · exact it_inv (fun _ (g : Int → Int) => g c = f c) (b := 899) _ (62 + 27 * e) f (by omega) rfl (fun j g h1 h2 hg => by show up g j _ c = f c; rw [up_n _ _ (by omega)]; exact hg)
  · have : (899 - (62 + 27 * e)).toNat = 0 := by omega
    rw [this]; rfl
theorem nCut_a {f : Int → Int} {e : Int} (h : nOk f) : rg (nCut f e).1 := by
  have h2 := h.2.2.1
  unfold nCut
  split
  · have := nShift_2 f e (by omega) 2 (by decide)
    show rg (up (nShift f e) 2 (nShift f e 2 - 1) 2)
    rw [up_s, this]; simp only [rg]; omega
  · simp only [rg]; omega
def cPl (f : Int → Int) : Int → Int := it (fun k f => up f k 0) 1536 0 f
def cCa (f : Int → Int) : Int → Int := it (fun k f => up f k (-1)) 40 0 f
def mComes (a n b y z : Int) (M : Md) : Md := if m_place M ((8 * n + a) * 8 + b) = 0 then
  ms_place (ms_entries (ms_inside (ms_ahead (ms_fact (ms_node (ms_startFact M (up (m_startFact M) (m_entries M) a)) (up (m_node M) (m_entries M) n)) (up (m_fact M) (m_entries M) b)) (up (m_ahead M) (m_entries M) y)) (up (m_inside M) (m_entries M) z)) (m_entries M + 1)) (up (m_place M) ((8 * n + a) * 8 + b) (m_entries M + 1)) else M
def mNotes (q c t e : Int) (M : Md) : Md := if m_lastCaller M (8 * q + c) = -1 then
  ms_callers (ms_lastCaller (ms_firstCaller (ms_following (ms_caller M (up (m_caller M) (m_callers M) (32 * t + e))) (up (m_following M) (m_callers M) (-1))) (up (m_firstCaller M) (8 * q + c) (m_callers M))) (up (m_lastCaller M) (8 * q + c) (m_callers M))) (m_callers M + 1)
  else ms_callers (ms_lastCaller (ms_following (ms_caller M (up (m_caller M) (m_callers M) (32 * t + e))) (up (up (m_following M) (m_callers M) (-1)) (m_lastCaller M (8 * q + c)) (m_callers M))) (up (m_lastCaller M) (8 * q + c) (m_callers M))) (m_callers M + 1)

/-! SIMULATION: calls that change the program -/
def upN (P : Nat → Pg) (i : Nat) (Q : Pg) : Nat → Pg := fun j => if j = i then Q else P j
def nxP (a : Int) (P : Nat → Pg) (Q : Pg) : Nat → Pg := if a < 0 then upN P 1 Q else fun j => upN P 1 Q ((j + 1) % 7)
def mSet (a : Int) (f : Int → Int) (D : Md) : Md := mDone a (ms_now (ms_kept D (nPut 5 (m_now D) (m_kept D))) f)
theorem upN_n {P : Nat → Pg} {i j : Nat} {Q : Pg} (h : j ≠ i) : upN P i Q j = P j := if_neg h
theorem mOk_known {D : Md} (h : mOk D) : mOk (ms_known D 0) := by
  obtain ⟨h1, h2, h3, h4, h5, h6, h7, h8, h9, h10, h11, h12, h13, h14, h15, h16, h17, h18, h19, h20, h21, h22, h23, h24, h25⟩ := h
  exact ⟨h1, h2, h3, h4, h5, h6, h7, h8, h9, h10, h11, h12, h13, h14, ⟨show (0 : Int) ≤ 0 by omega, show (0 : Int) ≤ 1 by omega⟩, h16, h17, h18, h19, h20, h21, h22, h23, h24, h25⟩
theorem mOk_st {D : Md} {s : Int} {K f : Int → Int} (h : mOk D) (hs : 0 ≤ s ∧ s ≤ 5) : mOk (ms_known (ms_states (ms_kept (ms_now D f) K) s) 0) := by
  obtain ⟨h1, h2, h3, h4, h5, h6, h7, h8, h9, h10, h11, h12, h13, h14, h15, h16, h17, h18, h19, h20, h21, h22, h23, h24, h25⟩ := h
  exact ⟨h1, hs, h3, h4, h5, h6, h7, h8, h9, h10, h11, h12, h13, h14, ⟨show (0 : Int) ≤ 0 by omega, show (0 : Int) ≤ 1 by omega⟩, h16, h17, h18, h19, h20, h21, h22, h23, h24, h25⟩
theorem tOk_rd {T : Tb} (h : tOk T) : tOk (ts_ready T 0) := by
  obtain ⟨h1, h2, h3, h4, h5, h6, h7, h8, h9, h10, h11, h12, h13⟩ := h
  exact ⟨⟨show (0 : Int) ≤ 0 by omega, show (0 : Int) ≤ 1 by omega⟩, h2, h3, h4, h5, h6, h7, h8, h9, h10, h11, h12, h13⟩
theorem uOk_rd {U : Sp} (h : uOk U) : uOk (us_ready U 0) := ⟨⟨show (0 : Int) ≤ 0 by omega, show (0 : Int) ≤ 1 by omega⟩, h.2⟩
def kK (D : Md) (K : Int → Int) : Prop := ∀ j : Int, K j = if 4630 ≤ j ∧ j < 5556 then m_now D (j - 4630) else m_kept D j
theorem kK_put (D : Md) : kK D (nPut 5 (m_now D) (m_kept D)) := by
  intro j
  rw [nPut_at]
  by_cases hc : 4630 ≤ j ∧ j < 5556
  · rw [if_pos hc, if_pos (by omega)]; congr 1
  · rw [if_neg hc, if_neg (by omega)]
theorem mLeave_5 {M : Md} (h : m_states M = 5) : mLeave M = ms_known (ms_states (ms_kept M (nLv2 4 (nLv1 (m_kept M)))) 5) 0 := if_pos h
theorem mLeave_n {M : Md} (h : ¬ m_states M = 5) : mLeave M = ms_known (ms_states (ms_kept M (nLv2 (m_states M) (m_kept M))) (m_states M + 1)) 0 := if_neg h
theorem mOk_kst {D : Md} {s : Int} {K : Int → Int} (h : mOk D) (hs : 0 ≤ s ∧ s ≤ 5) : mOk (ms_known (ms_states (ms_kept D K) s) 0) := by
  obtain ⟨h1, h2, h3, h4, h5, h6, h7, h8, h9, h10, h11, h12, h13, h14, h15, h16, h17, h18, h19, h20, h21, h22, h23, h24, h25⟩ := h
  exact ⟨h1, hs, h3, h4, h5, h6, h7, h8, h9, h10, h11, h12, h13, h14, ⟨show (0 : Int) ≤ 0 by omega, show (0 : Int) ≤ 1 by omega⟩, h16, h17, h18, h19, h20, h21, h22, h23, h24, h25⟩
/-- a change that counts -/
theorem set_pos {k : Int} {M : Mf} {T : Tb} {U : Sp} {X : Tx} {P : Nat → Pg} {D D1 : Md} {Q : Pg} (h : gS k M T U X P D) (hx : (m_refused D1, m_states D1, m_text D1, m_typed D1) = (m_refused D, m_states D, m_text D, m_typed D)) (hK : kK D (m_kept D1)) (hok : mOk D1) (hp : pR Q (m_now D1)) (hN : nOk (m_now D1)) (hW : nWf (m_now D1)) (hQ : pOk Q) : gS (k + 1) (fs_now (fs_states M (min (f_states M + 1) 5)) ((f_now M + 1) % 7)) (ts_ready T 0) (us_ready U 0) X (fun j => upN P 1 Q ((j + 1) % 7)) (mLeave D1) := by
  obtain ⟨⟨k1, k2, k3, k4, k5, k6⟩, ⟨p1, p2⟩, ⟨o1, o2, o3, o4, o5, o6, o7⟩, g1, g2, g3⟩ := h
  have x1 : m_refused D1 = m_refused D := congrArg (fun q => q.1) hx
  have x2 : m_states D1 = m_states D := congrArg (fun q => q.2.1) hx
  have x3 : m_text D1 = m_text D := congrArg (fun q => q.2.2.1) hx
  have x4 : m_typed D1 = m_typed D := congrArg (fun q => q.2.2.2) hx
  have hs := o5.2.1
  have hpo : ∀ j : Nat, j < 7 → pOk (upN P 1 Q ((j + 1) % 7)) := by
    intro j hj
    unfold upN
    split
    · exact hQ
    · exact o4 _ (by omega)
  rw [← x1] at k3 k4
  rw [← x3] at k6
  rw [← x4] at k5
  by_cases h5 : m_states D1 = 5
  · rw [mLeave_5 h5]
    have c4 : ∀ c : Int, 0 ≤ c → c < 926 → nLv2 4 (nLv1 (m_kept D1)) (926 * ((4 : Nat) : Int) + c) = m_now D c := by
      intro c c0 c1
      rw [nLv2_at 4 _ (by omega), if_pos (by omega), nLv1_at, if_neg (by omega), hK, if_pos (by omega)]
      congr 1; omega
    have ci : ∀ i : Nat, i < 4 → ∀ c : Int, 0 ≤ c → c < 926 → nLv2 4 (nLv1 (m_kept D1)) (926 * (i : Int) + c) = sK D (i + 1) c := by
      intro i hi c c0 c1
      rw [nLv2_at 4 _ (by omega), if_neg (by omega), nLv1_at, if_pos (by omega), hK, if_neg (by omega)]
      show _ = m_kept D (926 * ((i + 1 : Nat) : Int) + c)
      congr 1; omega
    generalize nLv2 4 (nLv1 (m_kept D1)) = L at c4 ci
    refine ⟨⟨⟨show 0 ≤ (f_now M + 1) % 7 by omega, show (f_now M + 1) % 7 ≤ 6 by omega⟩, show min (f_states M + 1) 5 = 5 by omega, k3, fun i i0 i1 => ?_, k5, k6⟩, ⟨hp, fun i hi => ?_⟩, ⟨tOk_rd o1, uOk_rd o2, o3, hpo, mOk_kst hok (by omega), hN, hW⟩, fun hh => absurd rfl hh, fun hh => absurd rfl hh, fun hh => absurd rfl hh⟩
    · have := k4 i i0 i1
      exact ⟨this.1, by show m_refused D1 i ≤ k + 1; omega⟩
    · have hi5 : (i : Int) < 5 := hi
      show pR (upN P 1 Q ((7 - (5 : Int).toNat + i + 1) % 7)) (fun c => L (926 * (i : Int) + c)) ∧ nOk (fun c => L (926 * (i : Int) + c)) ∧ nWf (fun c => L (926 * (i : Int) + c))
      rw [show (7 - (5 : Int).toNat + i + 1) % 7 = (3 + i) % 7 by omega]
      by_cases h4 : i = 4
      · subst h4
        have e0 : upN P 1 Q ((3 + 4) % 7) = P 0 := upN_n (by decide)
        rw [e0]
        exact ⟨pR_c o6 c4 p1, nOk_c o6 c4, nWf_c o6 o7 c4⟩
      · have q := p2 (i + 1) (by omega)
        have e0 : upN P 1 Q ((3 + i) % 7) = P (7 - (m_states D).toNat + (i + 1)) := by
          rw [upN_n (by omega)]
          congr 1; omega
        have ec := ci i (by omega)
        rw [e0]
        exact ⟨pR_c q.2.1 ec q.1, nOk_c q.2.1 ec, nWf_c q.2.1 q.2.2 ec⟩
  · rw [mLeave_n h5, x2]
    have c4 : ∀ c : Int, 0 ≤ c → c < 926 → nLv2 (m_states D) (m_kept D1) (926 * m_states D + c) = m_now D c := by
      intro c c0 c1
      rw [nLv2_at _ _ (by omega), if_pos (by omega), hK, if_pos (by omega)]
      congr 1; omega
    have ci : ∀ i : Nat, (i : Int) < m_states D → ∀ c : Int, 0 ≤ c → c < 926 → nLv2 (m_states D) (m_kept D1) (926 * (i : Int) + c) = sK D i c := by
      intro i hi c c0 c1
      have hmul : 926 * (i : Int) + 926 ≤ 926 * m_states D := by omega
      rw [nLv2_at _ _ (by omega), if_neg (by omega), hK, if_neg (by omega)]; rfl
    generalize nLv2 (m_states D) (m_kept D1) = L at c4 ci
    refine ⟨⟨⟨show 0 ≤ (f_now M + 1) % 7 by omega, show (f_now M + 1) % 7 ≤ 6 by omega⟩, show min (f_states M + 1) 5 = m_states D + 1 by omega, k3, fun i i0 i1 => ?_, k5, k6⟩, ⟨hp, fun i hi => ?_⟩, ⟨tOk_rd o1, uOk_rd o2, o3, hpo, mOk_kst hok (by omega), hN, hW⟩, fun hh => absurd rfl hh, fun hh => absurd rfl hh, fun hh => absurd rfl hh⟩
    · have := k4 i i0 i1
      exact ⟨this.1, by show m_refused D1 i ≤ k + 1; omega⟩
    · have hi5 : (i : Int) < m_states D + 1 := hi
      show pR (upN P 1 Q ((7 - (m_states D + 1).toNat + i + 1) % 7)) (fun c => L (926 * (i : Int) + c)) ∧ nOk (fun c => L (926 * (i : Int) + c)) ∧ nWf (fun c => L (926 * (i : Int) + c))
      by_cases h4 : (i : Int) = m_states D
      · rw [← h4] at c4
        have e0 : upN P 1 Q ((7 - (m_states D + 1).toNat + i + 1) % 7) = P 0 := by
          rw [show (7 - (m_states D + 1).toNat + i + 1) % 7 = 0 by omega]
          exact upN_n (by decide)
        rw [e0]
        exact ⟨pR_c o6 c4 p1, nOk_c o6 c4, nWf_c o6 o7 c4⟩
      · have q := p2 i (by omega)
        have ec := ci i (by omega)
        have e0 : upN P 1 Q ((7 - (m_states D + 1).toNat + i + 1) % 7) = P (7 - (m_states D).toNat + i) := by
          rw [upN_n (by omega)]
          congr 1; omega
        rw [e0]
        exact ⟨pR_c q.2.1 ec q.1, nOk_c q.2.1 ec, nWf_c q.2.1 q.2.2 ec⟩
/-- a change tried and let go: the draft is another, the last slot too -/
theorem gS_draft {k : Int} {M : Mf} {T : Tb} {U : Sp} {X : Tx} {P : Nat → Pg} {D : Md} {Q : Pg} {K : Int → Int} (h : gS k M T U X P D) (hQ : pOk Q) (hK : kK D K) : gS k M T U X (upN P 1 Q) (ms_kept D K) := by
  obtain ⟨⟨k1, k2, k3, k4, k5, k6⟩, ⟨p1, p2⟩, ⟨o1, o2, o3, o4, o5, o6, o7⟩, g1, g2, g3⟩ := h
  have hs := o5.2.1
  have e0 : upN P 1 Q 0 = P 0 := upN_n (by decide)
  have hok : mOk (ms_kept D K) := o5
  refine ⟨⟨k1, k2, k3, k4, k5, k6⟩, ⟨by rw [e0]; exact p1, fun i hi => ?_⟩, ⟨o1, o2, o3, fun j hj => ?_, hok, o6, o7⟩, by rw [e0]; exact g1, by rw [e0]; exact g2, g3⟩
  · have hi2 : (i : Int) < m_states D := hi
    have q := p2 i hi2
    have ec : ∀ c : Int, 0 ≤ c → c < 926 → sK (ms_kept D K) i c = sK D i c := by
      intro c c0 c1
      show K (926 * (i : Int) + c) = _
      rw [hK, if_neg (by omega)]; rfl
    show pR (upN P 1 Q (7 - (m_states D).toNat + i)) _ ∧ _
    rw [upN_n (by omega)]
    exact ⟨pR_c q.2.1 ec q.1, nOk_c q.2.1 ec, nWf_c q.2.1 q.2.2 ec⟩
  · unfold upN
    split
    · exact hQ
    · exact o4 j hj
theorem set_sim {k : Int} {M : Mf} {T : Tb} {U : Sp} {X : Tx} {P : Nat → Pg} {D : Md} {a : Int} {Q : Pg} {f : Int → Int} (h : gS k M T U X P D) (hk : 0 ≤ k ∧ k < 1000000) (hp : pR Q f) (hN : nOk f) (hW : nWf f) (hQ : pOk Q) (hneg : a < 0 → f = m_now D ∧ (a = -2 ∨ a = -4)) : gS (k + 1) (fSetM a M) (fSetT a T) (fSetU a U) X (nxP a P Q) (mSet a f D) := by
  have hK := kK_put D
  unfold fSetM fSetT fSetU nxP mSet
  generalize nPut 5 (m_now D) (m_kept D) = K at hK
  unfold mDone
  by_cases ha : a < 0
  · rw [if_pos ha, if_pos ha, if_pos ha, if_pos ha, if_pos ha]
    obtain ⟨rfl, h2⟩ := hneg ha
    have g := gS_draft h hQ hK
    have eta : ms_now (ms_kept D K) (m_now D) = ms_kept D K := rfl
    rw [eta]
    rcases h2 with rfl | rfl
    · rw [show mCounted (-2) (ms_kept D K) = mBump 0 (ms_kept D K) from if_pos rfl]
      exact gS_ref g hk (Or.inl ⟨rfl, rfl⟩)
    · rw [show mCounted (-4) (ms_kept D K) = mBump 2 (ms_kept D K) from (if_neg (by decide)).trans ((if_neg (by decide)).trans (if_pos rfl))]
      exact gS_ref g hk (Or.inr (Or.inr ⟨rfl, rfl⟩))
  · rw [if_neg ha, if_neg ha, if_neg ha, if_neg ha, if_neg ha]
    exact set_pos h rfl hK h.2.2.1.2.2.2.2.1 hp hN hW hQ
/-! refusals leave the row as it is -/
theorem neg_proc {f : Int → Int} (hN : nOk f) (h : (nAddProc f).1 < 0) : (nAddProc f).2 = f ∧ ((nAddProc f).1 = -2 ∨ (nAddProc f).1 = -4) := by
  have n0 := hN.1
  unfold nAddProc at h ⊢
  split
  · exact ⟨rfl, Or.inr rfl⟩
  · rename_i hc; rw [if_neg hc] at h; exact absurd (show f 0 < 0 from h) (by omega)
theorem neg_any {f : Int → Int} {p : Int} (hN : nOk f) (h : (nAddAny f p).1 < 0) : (nAddAny f p).2 = f ∧ ((nAddAny f p).1 = -2 ∨ (nAddAny f p).1 = -4) := by
  have n1 := hN.2.1
  unfold nAddAny at h ⊢
  split
  · exact ⟨rfl, Or.inl rfl⟩
  · rename_i hc
    rw [if_neg hc] at h
    split
    · exact ⟨rfl, Or.inr rfl⟩
    · rename_i hd; rw [if_neg hd] at h; exact absurd (show f 1 < 0 from h) (by omega)
theorem neg_edge {f : Int → Int} {n m q : Int} (hN : nOk f) (h : (nAddEdge f n m q).1 < 0) : (nAddEdge f n m q).2 = f ∧ ((nAddEdge f n m q).1 = -2 ∨ (nAddEdge f n m q).1 = -4) := by
  have n2 := hN.2.2.1
  unfold nAddEdge at h ⊢
  split
  · rename_i hc
    rw [if_pos hc] at h
    split
    · exact ⟨rfl, Or.inr rfl⟩
    · rename_i hd; rw [if_neg hd] at h; exact absurd (show f 2 < 0 from h) (by omega)
  · exact ⟨rfl, Or.inl rfl⟩
theorem neg_call {f : Int → Int} {n q m : Int} (hN : nOk f) (h : (nAddCall f n q m).1 < 0) : (nAddCall f n q m).2 = f ∧ ((nAddCall f n q m).1 = -2 ∨ (nAddCall f n q m).1 = -4) := by
  unfold nAddCall at h ⊢
  split
  · rename_i hc; rw [if_pos hc] at h; exact neg_edge hN h
  · exact ⟨rfl, Or.inl rfl⟩
theorem neg_flow {f : Int → Int} {e w a v : Int} (hN : nOk f) (h : (nSetFlow f e w a v).1 < 0) : (nSetFlow f e w a v).2 = f ∧ ((nSetFlow f e w a v).1 = -2 ∨ (nSetFlow f e w a v).1 = -4) := by
  have n2 := hN.2.2.1
  unfold nSetFlow at h ⊢
  by_cases hc : (((0 ≤ e ∧ e ≤ f 2 - 1) ∧ (0 ≤ w ∧ w ≤ (if f (62 + 27 * e + 2) = -1 then 0 else 2)) ∧ (0 ≤ a ∧ a ≤ 7)) ∧ (0 ≤ v ∧ v ≤ 255) ∧ (bA v 1 = if a = 0 then 1 else 0))
  · rw [if_pos hc] at h
    have hw0 := hc.1.2.1.1
    have hw : w ≤ 2 := by
      have h9 := hc.1.2.1.2
      split at h9 <;> omega
    have h3 := hc.1.1
    have h4 := hc.1.2.2
    have := nFlow_q f e w a hN (by omega) (by omega) (by omega)
    exact absurd (show f (62 + 27 * e + 3 + 8 * w + a) < 0 from h) (by omega)
  · rw [if_neg hc]; exact ⟨rfl, Or.inl rfl⟩
theorem neg_start {f : Int → Int} {v : Int} (hN : nOk f) (h : (nSetStart f v).1 < 0) : (nSetStart f v).2 = f ∧ ((nSetStart f v).1 = -2 ∨ (nSetStart f v).1 = -4) := by
  have n3 := hN.2.2.2.1
  unfold nSetStart at h ⊢
  split
  · rename_i hc; rw [if_pos hc] at h; exact absurd (show f 3 < 0 from h) (by omega)
  · exact ⟨rfl, Or.inl rfl⟩
theorem neg_cut {f : Int → Int} {e : Int} (hN : nOk f) (h : (nCut f e).1 < 0) : (nCut f e).2 = f ∧ ((nCut f e).1 = -2 ∨ (nCut f e).1 = -4) := by
  have n2 := hN.2.2.1
  unfold nCut at h ⊢
  split
  · rename_i hc
    rw [if_pos hc] at h
    have h1 : up (nShift f e) 2 (nShift f e 2 - 1) 2 < 0 := h
    rw [up_s, nShift_2 f e (by omega) 2 (by decide)] at h1
    omega
  · exact ⟨rfl, Or.inl rfl⟩
/-! the seven calls -/
theorem s_proc {k : Int} {M : Mf} {T : Tb} {U : Sp} {X : Tx} {P : Nat → Pg} {D : Md} (h : gS k M T U X P D) (hk : 0 ≤ k ∧ k < 1000000) : (pAddProc (pCopy (P 0) (P 1))).1 = (nAddProc (m_now D)).1 ∧ gS (k + 1) (fSetM (pAddProc (pCopy (P 0) (P 1))).1 M) (fSetT (pAddProc (pCopy (P 0) (P 1))).1 T) (fSetU (pAddProc (pCopy (P 0) (P 1))).1 U) X (nxP (pAddProc (pCopy (P 0) (P 1))).1 P (pAddProc (pCopy (P 0) (P 1))).2) (mSet (nAddProc (m_now D)).1 (nAddProc (m_now D)).2 D) := by
  obtain ⟨_, ⟨p1, _⟩, ⟨_, _, _, o4, _, o6, o7⟩, _⟩ := id h
  have g := pR_addProc o6 (pR_copy (P1 := P 1) p1)
  rw [g.1]
  exact ⟨rfl, set_sim h hk g.2 (nAddProc_ok o6) (nWf_ap o6 o7) (pAddProc_ok (pCopy_ok (o4 0 (by omega)) (o4 1 (by omega)))) (neg_proc o6)⟩
theorem s_node {k : Int} {M : Mf} {T : Tb} {U : Sp} {X : Tx} {P : Nat → Pg} {D : Md} {p : Int} (h : gS k M T U X P D) (hk : 0 ≤ k ∧ k < 1000000) : (pAddNode (pCopy (P 0) (P 1)) p).1 = (nAddAny (m_now D) p).1 ∧ gS (k + 1) (fSetM (pAddNode (pCopy (P 0) (P 1)) p).1 M) (fSetT (pAddNode (pCopy (P 0) (P 1)) p).1 T) (fSetU (pAddNode (pCopy (P 0) (P 1)) p).1 U) X (nxP (pAddNode (pCopy (P 0) (P 1)) p).1 P (pAddNode (pCopy (P 0) (P 1)) p).2) (mSet (nAddAny (m_now D) p).1 (nAddAny (m_now D) p).2 D) := by
  obtain ⟨_, ⟨p1, _⟩, ⟨_, _, _, o4, _, o6, o7⟩, _⟩ := id h
  have g := pR_addNode (p := p) o6 (pR_copy (P1 := P 1) p1)
  rw [g.1]
  exact ⟨rfl, set_sim h hk g.2 (nAddAny_ok o6) (nWf_addAny o6 o7) (pAddNode_ok (pCopy_ok (o4 0 (by omega)) (o4 1 (by omega)))) (neg_any o6)⟩
theorem s_edge {k : Int} {M : Mf} {T : Tb} {U : Sp} {X : Tx} {P : Nat → Pg} {D : Md} {n m : Int} (h : gS k M T U X P D) (hk : 0 ≤ k ∧ k < 1000000) : (pAddPlain (pCopy (P 0) (P 1)) n m).1 = (nAddEdge (m_now D) n m (-1)).1 ∧ gS (k + 1) (fSetM (pAddPlain (pCopy (P 0) (P 1)) n m).1 M) (fSetT (pAddPlain (pCopy (P 0) (P 1)) n m).1 T) (fSetU (pAddPlain (pCopy (P 0) (P 1)) n m).1 U) X (nxP (pAddPlain (pCopy (P 0) (P 1)) n m).1 P (pAddPlain (pCopy (P 0) (P 1)) n m).2) (mSet (nAddEdge (m_now D) n m (-1)).1 (nAddEdge (m_now D) n m (-1)).2 D) := by
  obtain ⟨_, ⟨p1, _⟩, ⟨_, _, _, o4, _, o6, o7⟩, _⟩ := id h
  have g := pR_addPlain (n := n) (m := m) o6 (pR_copy (P1 := P 1) p1)
  rw [g.1]
  exact ⟨rfl, set_sim h hk g.2 (nAddEdge_ok o6) (nWf_addEdge o6 o7) (pAddPlain_ok (pCopy_ok (o4 0 (by omega)) (o4 1 (by omega)))) (neg_edge o6)⟩
theorem s_call {k : Int} {M : Mf} {T : Tb} {U : Sp} {X : Tx} {P : Nat → Pg} {D : Md} {n q m : Int} (h : gS k M T U X P D) (hk : 0 ≤ k ∧ k < 1000000) : (pAddCall (pCopy (P 0) (P 1)) n q m).1 = (nAddCall (m_now D) n q m).1 ∧ gS (k + 1) (fSetM (pAddCall (pCopy (P 0) (P 1)) n q m).1 M) (fSetT (pAddCall (pCopy (P 0) (P 1)) n q m).1 T) (fSetU (pAddCall (pCopy (P 0) (P 1)) n q m).1 U) X (nxP (pAddCall (pCopy (P 0) (P 1)) n q m).1 P (pAddCall (pCopy (P 0) (P 1)) n q m).2) (mSet (nAddCall (m_now D) n q m).1 (nAddCall (m_now D) n q m).2 D) := by
  obtain ⟨_, ⟨p1, _⟩, ⟨_, _, _, o4, _, o6, o7⟩, _⟩ := id h
  have g := pR_addCall (n := n) (q := q) (m := m) o6 (pR_copy (P1 := P 1) p1)
  rw [g.1]
  exact ⟨rfl, set_sim h hk g.2 (nAddCall_ok o6) (nWf_addCall o6 o7) (pAddCall_ok (pCopy_ok (o4 0 (by omega)) (o4 1 (by omega)))) (neg_call o6)⟩
theorem s_flows {k : Int} {M : Mf} {T : Tb} {U : Sp} {X : Tx} {P : Nat → Pg} {D : Md} {e w a v : Int} (h : gS k M T U X P D) (hk : 0 ≤ k ∧ k < 1000000) : (pSetFlow (pCopy (P 0) (P 1)) e w a v).1 = (nSetFlow (m_now D) e w a v).1 ∧ gS (k + 1) (fSetM (pSetFlow (pCopy (P 0) (P 1)) e w a v).1 M) (fSetT (pSetFlow (pCopy (P 0) (P 1)) e w a v).1 T) (fSetU (pSetFlow (pCopy (P 0) (P 1)) e w a v).1 U) X (nxP (pSetFlow (pCopy (P 0) (P 1)) e w a v).1 P (pSetFlow (pCopy (P 0) (P 1)) e w a v).2) (mSet (nSetFlow (m_now D) e w a v).1 (nSetFlow (m_now D) e w a v).2 D) := by
  obtain ⟨_, ⟨p1, _⟩, ⟨_, _, _, o4, _, o6, o7⟩, _⟩ := id h
  have g := pR_setFlow (e := e) (w := w) (a := a) (v := v) o6 (pR_copy (P1 := P 1) p1)
  rw [g.1]
  exact ⟨rfl, set_sim h hk g.2 (nSetFlow_ok o6) (nWf_setFlow o6 o7) (pSetFlow_ok (pCopy_ok (o4 0 (by omega)) (o4 1 (by omega)))) (neg_flow o6)⟩
theorem s_starts {k : Int} {M : Mf} {T : Tb} {U : Sp} {X : Tx} {P : Nat → Pg} {D : Md} {v : Int} (h : gS k M T U X P D) (hk : 0 ≤ k ∧ k < 1000000) : (pSetStart (pCopy (P 0) (P 1)) v).1 = (nSetStart (m_now D) v).1 ∧ gS (k + 1) (fSetM (pSetStart (pCopy (P 0) (P 1)) v).1 M) (fSetT (pSetStart (pCopy (P 0) (P 1)) v).1 T) (fSetU (pSetStart (pCopy (P 0) (P 1)) v).1 U) X (nxP (pSetStart (pCopy (P 0) (P 1)) v).1 P (pSetStart (pCopy (P 0) (P 1)) v).2) (mSet (nSetStart (m_now D) v).1 (nSetStart (m_now D) v).2 D) := by
  obtain ⟨_, ⟨p1, _⟩, ⟨_, _, _, o4, _, o6, o7⟩, _⟩ := id h
  have g := pR_setStart (v := v) o6 (pR_copy (P1 := P 1) p1)
  rw [g.1]
  exact ⟨rfl, set_sim h hk g.2 (nSetStart_ok o6) (nWf_setStart o6 o7) (pSetStart_ok (pCopy_ok (o4 0 (by omega)) (o4 1 (by omega)))) (neg_start o6)⟩
theorem s_cuts {k : Int} {M : Mf} {T : Tb} {U : Sp} {X : Tx} {P : Nat → Pg} {D : Md} {e : Int} (h : gS k M T U X P D) (hk : 0 ≤ k ∧ k < 1000000) : (pCut (pCopy (P 0) (P 1)) e).1 = (nCut (m_now D) e).1 ∧ gS (k + 1) (fSetM (pCut (pCopy (P 0) (P 1)) e).1 M) (fSetT (pCut (pCopy (P 0) (P 1)) e).1 T) (fSetU (pCut (pCopy (P 0) (P 1)) e).1 U) X (nxP (pCut (pCopy (P 0) (P 1)) e).1 P (pCut (pCopy (P 0) (P 1)) e).2) (mSet (nCut (m_now D) e).1 (nCut (m_now D) e).2 D) := by
  obtain ⟨_, ⟨p1, _⟩, ⟨_, _, _, o4, _, o6, o7⟩, _⟩ := id h
  have g := pR_cut (e := e) o6 (pR_copy (P1 := P 1) p1)
  rw [g.1]
  exact ⟨rfl, set_sim h hk g.2 (nCut_ok o6) (nWf_cut o6 o7) (pCut_ok (pCopy_ok (o4 0 (by omega)) (o4 1 (by omega)))) (neg_cut o6)⟩
/-! back -/
def bkP (M : Mf) (P : Nat → Pg) : Nat → Pg := if f_states M = 0 then P else fun j => P ((j + 6) % 7)
theorem s_back {k : Int} {M : Mf} {T : Tb} {U : Sp} {X : Tx} {P : Nat → Pg} {D : Md} (h : gS k M T U X P D) (hk : 0 ≤ k ∧ k < 1000000) : (fBack M T U).1 = (mBack D).1 ∧ gS (k + 1) (fBack M T U).2.1 (fBack M T U).2.2.1 (fBack M T U).2.2.2 X (bkP M P) (mBack D).2 := by
  obtain ⟨⟨k1, k2, k3, k4, k5, k6⟩, ⟨p1, p2⟩, ⟨o1, o2, o3, o4, o5, o6, o7⟩, g1, g2, g3⟩ := id h
  have hs := o5.2.1
  unfold fBack mBack bkP
  rw [k2]
  by_cases h0 : m_states D = 0
  · rw [if_pos h0, if_pos h0, if_pos h0]
    exact ⟨rfl, gS_ref h hk (Or.inr (Or.inl ⟨rfl, rfl⟩))⟩
  · rw [if_neg h0, if_neg h0, if_neg h0]
    refine ⟨rfl, ?_⟩
    have q := p2 (m_states D - 1).toNat (by omega)
    have q7 : 7 - (m_states D).toNat + (m_states D - 1).toNat = 6 := by omega
    rw [q7] at q
    have ec : ∀ c : Int, 0 ≤ c → c < 926 → nTake (m_states D - 1) (m_kept D) (m_now D) c = sK D (m_states D - 1).toNat c := by
      intro c c0 c1
      rw [nTake_at, if_pos ⟨c0, c1⟩]
      show _ = m_kept D (926 * (((m_states D - 1).toNat : Nat) : Int) + c)
      congr 1; omega
    show gS (k + 1) (fs_now (fs_states M (m_states D - 1)) ((f_now M + 7 - 1) % 7)) (ts_ready T 0) (us_ready U 0) X (fun j => P ((j + 6) % 7)) (ms_known (ms_now (ms_states D (m_states D - 1)) (nTake (m_states D - 1) (m_kept D) (m_now D))) 0)
    generalize nTake (m_states D - 1) (m_kept D) (m_now D) = F at ec
    refine ⟨⟨⟨show 0 ≤ (f_now M + 7 - 1) % 7 by omega, show (f_now M + 7 - 1) % 7 ≤ 6 by omega⟩, rfl, k3, fun i i0 i1 => ?_, k5, k6⟩, ⟨pR_c q.2.1 ec q.1, fun i hi => ?_⟩, ⟨tOk_rd o1, uOk_rd o2, o3, fun j hj => o4 _ (by omega), ?_, nOk_c q.2.1 ec, nWf_c q.2.1 q.2.2 ec⟩, fun hh => absurd rfl hh, fun hh => absurd rfl hh, fun hh => absurd rfl hh⟩
    · have := k4 i i0 i1
      exact ⟨this.1, by show m_refused D i ≤ k + 1; omega⟩
    · have hi2 : (i : Int) < m_states D - 1 := hi
      have q' := p2 i (by omega)
      have e0 : P ((7 - (m_states D - 1).toNat + i + 6) % 7) = P (7 - (m_states D).toNat + i) := by congr 1; omega
      show pR (P ((7 - (m_states D - 1).toNat + i + 6) % 7)) (sK D i) ∧ nOk (sK D i) ∧ nWf (sK D i)
      rw [e0]; exact q'
    · exact mOk_st (f := F) (K := m_kept D) (s := m_states D - 1) o5 (by omega)

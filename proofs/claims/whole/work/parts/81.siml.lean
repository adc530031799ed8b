/-! SIMULATION: texts -/
theorem rAll_q {len : Int} {b : Int → Int} (hb : ∀ j : Int, 0 ≤ j → j < 120 → 0 ≤ b j ∧ b j ≤ 127) (hl : len ≤ 120) (k : Nat) : ∀ (q : Int) (O : Int → Int) (w : Int), 0 ≤ q → q ≤ len → oOk O → 0 ≤ w → 2 * w ≤ q → (0 ≤ (rAll len b k q O w).2.1 ∧ (rAll len b k q O w).2.1 ≤ len) ∧ oOk (rAll len b k q O w).2.2.1 ∧ 0 ≤ (rAll len b k q O w).2.2.2 ∧ 2 * (rAll len b k q O w).2.2.2 ≤ (rAll len b k q O w).2.1 := by
  induction k with
  | zero => intro q O w q0 q1 hO w0 w1; exact ⟨⟨q0, q1⟩, hO, w0, w1⟩
  | succ k ih =>
    intro q O w q0 q1 hO w0 w1
    have r := rReads_q len b q O w hb hl ⟨q0, q1⟩ hO
    have hw : 0 ≤ (rReads len b q O w).2.2.2 ∧ 2 * (rReads len b q O w).2.2.2 ≤ (rReads len b q O w).2.1 := by
      cases h9 : (rReads len b q O w).1 with
      | true => have := r.2.2.2.1 h9; omega
      | false => have := r.2.2.2.2 h9; have := r.1; omega
    have r1 := r.1
    have r2 := r.2.1
    unfold rAll
    split
    · exact ih _ _ _ (by omega) r2 r.2.2.1 hw.1 hw.2
    · exact ⟨⟨by omega, r2⟩, r.2.2.1, hw⟩
theorem mOk_nk {D : Md} {K f : Int → Int} (h : mOk D) : mOk (ms_now (ms_kept D K) f) := h
theorem gS_X {k : Int} {M : Mf} {T : Tb} {U : Sp} {X X' : Tx} {P : Nat → Pg} {D : Md} (h : gS k M T U X P D) (ho : xOk X') (hl : x_length X' = x_length X) (hb : x_bytes X' = x_bytes X) : gS k M T U X' P D := by
  obtain ⟨⟨k1, k2, k3, k4, k5, k6⟩, p, ⟨o1, o2, o3, o4, o5, o6, o7⟩, g⟩ := h
  exact ⟨⟨k1, k2, k3, k4, hl.trans k5, hb.trans k6⟩, p, ⟨o1, o2, ho, o4, o5, o6, o7⟩, g⟩
theorem s_does {k : Int} {M : Mf} {T : Tb} {U : Sp} {X : Tx} {P : Nat → Pg} {D : Md} (h : gS k M T U X P D) (hk : 0 ≤ k ∧ k < 1000000) : (fDoes (P 0) (P 1) M T U X).1 = (mDoes D).1 ∧ gS (k + 1) (fDoes (P 0) (P 1) M T U X).2.1 (fDoes (P 0) (P 1) M T U X).2.2.1 (fDoes (P 0) (P 1) M T U X).2.2.2.1 (fDoes (P 0) (P 1) M T U X).2.2.2.2.1 (nxP (fDoes (P 0) (P 1) M T U X).1 P (fDoes (P 0) (P 1) M T U X).2.2.2.2.2) (mDoes D).2 := by
  obtain ⟨⟨k1, k2, k3, k4, k5, k6⟩, ⟨p1, p2⟩, ⟨o1, o2, o3, o4, o5, o6, o7⟩, g1, g2, g3⟩ := id h
  have hO : oOk (m_orders D) := o5.2.2.2.2.2.2.2.2.2.2.2.2.2.2.2.2.2.2.2.2.2.2.1
  have hty := o5.2.2.2.2.2.2.2.2.2.2.2.2.2.2.2.2.2.2.2.2.2.1
  have htx := o5.2.2.2.2.2.2.2.2.2.2.2.2.2.2.2.2.2.2.2.2.1
  have sk := skT_q (m_typed D) (m_text D) 0 hty.1
  have rs := read_sim (O := m_orders D) o3 k5 k6 hO
  have rq := rAll_q htx hty.2 121 (skT (m_typed D) (m_text D) 0) (m_orders D) 0 sk.1 sk.2 hO (by omega) (by omega)
  have xk := xRead_ok o3
  have em : mRd D = rAll (m_typed D) (m_text D) 121 (skT (m_typed D) (m_text D) 0) (m_orders D) 0 := rfl
  rw [← em] at rs rq
  have hmo : mOk (mWith (mRd D).2.1 (mRd D).2.2.1 (mRd D).2.2.2 D) := mOk_low o5 (by omega) rq.2.1 (by omega)
  have hX := gS_X h xk.1 xk.2.1 xk.2.2
  have hG : gS k M T U (xRead X).2 P (mWith (mRd D).2.1 (mRd D).2.2.1 (mRd D).2.2.2 D) := gS_D hX (Int.le_refl _) rfl hmo o1 o2 g1 g2 g3
  unfold mDoes mDo
  generalize mRd D = R at rs rq hmo hG
  unfold fDoes
  cases hR : R.1 with
  | false =>
    have r := rs.2 hR
    rw [if_pos (show (xRead X).1 ≠ -1 by omega), if_neg (by decide)]
    refine ⟨by show -10 - (xRead X).1 = -10 - R.2.1; rw [r.1], ?_⟩
    show gS (k + 1) M T U (xRead X).2 (nxP (-10 - (xRead X).1) P (P 1)) (mWith R.2.1 R.2.2.1 R.2.2.2 D)
    have e : nxP (-10 - (xRead X).1) P (P 1) = P := by
      unfold nxP
      rw [if_pos (by omega)]
      funext j
      unfold upN
      split
      · rename_i hj; rw [hj]
      · rfl
    rw [e]; exact gS_mono hG (by omega)
  | true =>
    obtain ⟨r1, r2, r3⟩ := rs.1 hR
    rw [if_neg (show ¬ (xRead X).1 ≠ -1 by omega), if_pos rfl, r2]
    have dl := pR_doL (X := (xRead X).2) (O := R.2.2.1) R.2.2.2.toNat 0 (pCopy (P 0) (P 1)) (m_now D) o6 o7 (pR_copy (P1 := P 1) p1) (fun j j0 j1 => r3 j j0 (by omega))
    have dok := nDoL_ok R.2.2.1 R.2.2.2.toNat 0 (m_now D) o6
    have fok := fDoL_ok (xRead X).2 R.2.2.2.toNat 0 (pCopy (P 0) (P 1)) (pCopy_ok (o4 0 (by omega)) (o4 1 (by omega)))
    generalize fDoL (xRead X).2 R.2.2.2.toNat 0 (pCopy (P 0) (P 1)) = A at dl fok
    have hB : ∀ i : Int, (nDoL R.2.2.1 R.2.2.2.toNat 0 (m_now D)).1 = false → 0 ≤ (nDoL R.2.2.1 R.2.2.2.toNat 0 (m_now D)).2.1 := by
      intro _ hf
      have key : ∀ (n : Nat) (i : Int) (f : Int → Int), 0 ≤ i → 0 ≤ (nDoL R.2.2.1 n i f).2.1 := by
        intro n
        induction n with
        | zero => intro i f hi; exact hi
        | succ n ih =>
          intro i f hi
          unfold nDoL
          split
          · exact hi
          · exact ih (i + 1) _ (by omega)
      exact key _ 0 _ (Int.le_refl _)
    generalize nDoL R.2.2.1 R.2.2.2.toNat 0 (m_now D) = B at dl dok hB
    have hK := kK_put D
    generalize nPut 5 (m_now D) (m_kept D) = K at hK
    cases hB1 : B.1 with
    | true =>
      rw [if_pos (dl.1.trans hB1), if_pos rfl]
      refine ⟨rfl, ?_⟩
      show gS (k + 1) (fSetM R.2.2.2 M) (fSetT R.2.2.2 T) (fSetU R.2.2.2 U) (xRead X).2 (nxP R.2.2.2 P A.2.2) (mLeave (ms_now (ms_kept (mWith R.2.1 R.2.2.1 R.2.2.2 D) K) B.2.2))
      unfold fSetM fSetT fSetU nxP
      rw [if_neg (by omega), if_neg (by omega), if_neg (by omega), if_neg (by omega)]
      exact set_pos hG rfl hK (mOk_nk hmo) (dl.2.2.1 hB1) dok dl.2.2.2 fok
    | false =>
      rw [if_neg (by rw [dl.1, hB1]; decide), if_neg (by decide), dl.2.1]
      have b0 := hB 0 hB1
      refine ⟨rfl, ?_⟩
      have ec : ∀ c : Int, 0 ≤ c → c < 926 → nTake 5 K B.2.2 c = m_now D c := by
        intro c c0 c1
        rw [nTake_at, if_pos ⟨c0, c1⟩, hK, if_pos (by omega)]
        congr 1; omega
      show gS (k + 1) M T U (xRead X).2 (nxP (-1000 - B.2.1) P A.2.2) (ms_known (ms_now (ms_kept (mWith R.2.1 R.2.2.1 R.2.2.2 D) K) (nTake 5 K B.2.2)) 0)
      generalize nTake 5 K B.2.2 = F at ec
      have e : nxP (-1000 - B.2.1) P A.2.2 = upN P 1 A.2.2 := if_pos (by omega)
      rw [e]
      have hK2 : kK (mWith R.2.1 R.2.2.1 R.2.2.2 D) K := hK
      have gd := gS_draft hG fok hK2
      obtain ⟨⟨a1, a2, a3, a4, a5, a6⟩, ⟨b1, b2⟩, ⟨c1, c2, c3, c4, c5, c6, c7⟩, e1, e2, e3⟩ := gd
      refine ⟨⟨a1, a2, a3, fun i i0 i1 => ?_, a5, a6⟩, ⟨pR_c o6 ec b1, b2⟩, ⟨c1, c2, c3, c4, mOk_known (mOk_nk (K := K) (f := F) hmo), nOk_c o6 ec, nWf_c o6 o7 ec⟩, fun hr => ?_, e2, fun hh => absurd rfl hh⟩
      · have := a4 i i0 i1
        exact ⟨this.1, by have h9 : m_refused D i ≤ k := this.2; show m_refused D i ≤ k + 1; omega⟩
      · have g := e1 hr
        have g' : (0 ≤ t_seedProc T ∧ t_seedProc T < m_now D 0) := g.1
        refine ⟨⟨g'.1, ?_⟩, g.2⟩
        show t_seedProc T < F 0
        rw [ec 0 (by omega) (by omega)]; exact g'.2
theorem s_type {k : Int} {M : Mf} {T : Tb} {U : Sp} {X : Tx} {P : Nat → Pg} {D : Md} {c : Int} (h : gS k M T U X P D) (hk : 0 ≤ k ∧ k < 1000000) : (fType c M X).1 = (mType c D).1 ∧ gS (k + 1) (fType c M X).2.1 T U (fType c M X).2.2 P (mType c D).2 := by
  obtain ⟨⟨k1, k2, k3, k4, k5, k6⟩, p, ⟨o1, o2, o3, o4, o5, o6, o7⟩, g1, g2, g3⟩ := id h
  have hty := o5.2.2.2.2.2.2.2.2.2.2.2.2.2.2.2.2.2.2.2.2.2.1
  unfold fType mType
  by_cases hc : 0 ≤ c ∧ c ≤ 127
  · rw [if_pos hc, if_pos hc]
    by_cases hf : m_typed D = 120
    · rw [if_neg (show ¬ x_length X < 120 by omega), if_pos hf]
      exact ⟨rfl, gS_ref h hk (Or.inr (Or.inr ⟨rfl, rfl⟩))⟩
    · rw [if_pos (show x_length X < 120 by omega), if_neg hf]
      refine ⟨by show x_length X + 1 = m_typed D + 1; omega, ?_⟩
      have xa := xApp_ok (c := c) o3 (by omega)
      have ex : xApp c X = xs_length (xs_bytes X (up (x_bytes X) (x_length X) c)) (x_length X + 1) := if_neg (by omega)
      have hmo : mOk (ms_typed (ms_text D (up (m_text D) (m_typed D) c)) (m_typed D + 1)) := by
        obtain ⟨h1, h2, h3, h4, h5, h6, h7, h8, h9, h10, h11, h12, h13, h14, h15, h16, h17, h18, h19, h20, h21, h22, h23, h24, h25⟩ := o5
        exact ⟨h1, h2, h3, h4, h5, h6, h7, h8, h9, h10, h11, h12, h13, h14, h15, h16, h17, h18, h19, h20, up_rng h21 _ (by omega), ⟨show 0 ≤ m_typed D + 1 by omega, show m_typed D + 1 ≤ 120 by omega⟩, h23, h24, h25⟩
      show gS (k + 1) M T U (xApp c X) P (ms_typed (ms_text D (up (m_text D) (m_typed D) c)) (m_typed D + 1))
      rw [ex] at xa ⊢
      refine ⟨⟨k1, k2, k3, fun i i0 i1 => ?_, show x_length X + 1 = m_typed D + 1 by omega, ?_⟩, p, ⟨o1, o2, xa, o4, hmo, o6, o7⟩, g1, g2, g3⟩
      · have := k4 i i0 i1
        exact ⟨this.1, by show m_refused D i ≤ k + 1; omega⟩
      · show up (x_bytes X) (x_length X) c = up (m_text D) (m_typed D) c
        rw [k5, k6]
  · rw [if_neg hc, if_neg hc]
    exact ⟨rfl, gS_ref h hk (Or.inl ⟨rfl, rfl⟩)⟩
theorem s_clear {k : Int} {M : Mf} {T : Tb} {U : Sp} {X : Tx} {P : Nat → Pg} {D : Md} (h : gS k M T U X P D) : x_length X = m_typed D ∧ gS (k + 1) M T U (xs_length X 0) P (ms_typed D 0) := by
  obtain ⟨⟨k1, k2, k3, k4, k5, k6⟩, p, ⟨o1, o2, o3, o4, o5, o6, o7⟩, g1, g2, g3⟩ := id h
  have hmo : mOk (ms_typed D 0) := by
    obtain ⟨h1, h2, h3, h4, h5, h6, h7, h8, h9, h10, h11, h12, h13, h14, h15, h16, h17, h18, h19, h20, h21, h22, h23, h24, h25⟩ := o5
    exact ⟨h1, h2, h3, h4, h5, h6, h7, h8, h9, h10, h11, h12, h13, h14, h15, h16, h17, h18, h19, h20, h21, ⟨show (0 : Int) ≤ 0 by omega, show (0 : Int) ≤ 120 by omega⟩, h23, h24, h25⟩
  have hx : xOk (xs_length X 0) := by
    obtain ⟨h1, h2, h3, h4, h5⟩ := o3
    exact ⟨⟨show (0 : Int) ≤ 0 by omega, show (0 : Int) ≤ 120 by omega⟩, h2, h3, h4, h5⟩
  refine ⟨k5, ⟨k1, k2, k3, fun i i0 i1 => ?_, rfl, k6⟩, p, ⟨o1, o2, hx, o4, hmo, o6, o7⟩, g1, g2, g3⟩
  have := k4 i i0 i1
  exact ⟨this.1, by show m_refused D i ≤ k + 1; omega⟩
theorem tally_sim {k : Int} {M : Mf} {T : Tb} {U : Sp} {X : Tx} {P : Nat → Pg} {D : Md} {w : Int} (h : gS k M T U X P D) (hw : 0 ≤ w ∧ w ≤ 4) : fTally M X w = mTold D w := by
  obtain ⟨⟨_, k2, ⟨k3, k4, k5⟩, _, k6, _⟩, _⟩ := h
  unfold fTally mTold
  have : w = 0 ∨ w = 1 ∨ w = 2 ∨ w = 3 ∨ w = 4 := by omega
  rcases this with rfl | rfl | rfl | rfl | rfl
  · exact k3
  · exact k4
  · exact k5
  · exact k6
  · exact k2
theorem s_told {k : Int} {M : Mf} {T : Tb} {U : Sp} {X : Tx} {P : Nat → Pg} {D : Md} {w : Int} (h : gS k M T U X P D) (hk : 0 ≤ k ∧ k < 1000000) : (fTold w M X).1 = (mToldA w D).1 ∧ gS (k + 1) (fTold w M X).2 T U X P (mToldA w D).2 := by
  unfold fTold mToldA
  by_cases hc : 0 ≤ w ∧ w ≤ 4
  · rw [if_pos hc, if_pos hc]; exact ⟨tally_sim h hc, gS_mono h (by omega)⟩
  · rw [if_neg hc, if_neg hc]; exact ⟨rfl, gS_ref h hk (Or.inl ⟨rfl, rfl⟩)⟩
theorem s_at {k : Int} {M : Mf} {T : Tb} {U : Sp} {X : Tx} {P : Nat → Pg} {D : Md} {n w : Int} (h : gS k M T U X P D) (hk : 0 ≤ k ∧ k < 1000000) : (fAt (P 0) n w M).1 = (mAt n w D).1 ∧ gS (k + 1) (fAt (P 0) n w M).2 T U X P (mAt n w D).2 := by
  have p := h.2.1.1
  have e1 := p.2.1
  unfold fAt mAt
  by_cases hc : (0 ≤ n ∧ n ≤ m_now D 1 - 1) ∧ (0 ≤ w ∧ w ≤ 1)
  · have q := p.2.2.2.2.2.1 n (by omega) (by omega)
    rw [if_pos hc, if_pos (by omega)]
    refine ⟨?_, gS_mono h (by omega)⟩
    have : w = 0 ∨ w = 1 := by omega
    rcases this with rfl | rfl
    · show p_procOf (P 0) n = m_now D (14 + 2 * n + 0)
      rw [q.1]; congr 1; omega
    · exact q.2
  · rw [if_neg hc, if_neg (by omega)]; exact ⟨rfl, gS_ref h hk (Or.inl ⟨rfl, rfl⟩)⟩
theorem edge_at {P0 : Pg} {N : Int → Int} {e w : Int} (p : pR P0 N) (he : 0 ≤ e ∧ e < N 2) (hw : 0 ≤ w ∧ w ≤ 2) : fEdge P0 e w = N (62 + 27 * e + w) := by
  have q := p.2.2.2.2.2.2 e he.1 he.2
  have : w = 0 ∨ w = 1 ∨ w = 2 := by omega
  rcases this with rfl | rfl | rfl
  · exact q.1
  · exact q.2.1
  · exact q.2.2.1
theorem s_about {k : Int} {M : Mf} {T : Tb} {U : Sp} {X : Tx} {P : Nat → Pg} {D : Md} {e w : Int} (h : gS k M T U X P D) (hk : 0 ≤ k ∧ k < 1000000) : (fAbout (P 0) e w M).1 = (mAbout e w D).1 ∧ gS (k + 1) (fAbout (P 0) e w M).2 T U X P (mAbout e w D).2 := by
  have p := h.2.1.1
  have e1 := p.2.2.1
  unfold fAbout mAbout
  by_cases hc : (0 ≤ e ∧ e ≤ m_now D 2 - 1) ∧ (0 ≤ w ∧ w ≤ 2)
  · rw [if_pos hc, if_pos (by omega)]
    exact ⟨edge_at p (show 0 ≤ e ∧ e < m_now D 2 by omega) hc.2, gS_mono h (by omega)⟩
  · rw [if_neg hc, if_neg (by omega)]; exact ⟨rfl, gS_ref h hk (Or.inl ⟨rfl, rfl⟩)⟩
theorem s_goes {k : Int} {M : Mf} {T : Tb} {U : Sp} {X : Tx} {P : Nat → Pg} {D : Md} {e w a : Int} (h : gS k M T U X P D) (hk : 0 ≤ k ∧ k < 1000000) : (fGoes (P 0) e w a M).1 = (mGoes e w a D).1 ∧ gS (k + 1) (fGoes (P 0) e w a M).2 T U X P (mGoes e w a D).2 := by
  have p := h.2.1.1
  have e1 := p.2.2.1
  unfold fGoes mGoes
  by_cases he : 0 ≤ e ∧ e ≤ m_now D 2 - 1
  · have q := p.2.2.2.2.2.2 e (by omega) (by omega)
    have hcond : (((0 ≤ e ∧ e < p_edges (P 0)) ∧ 0 ≤ w ∧ w < (if p_callee (P 0) e = -1 then 1 else 3)) ∧ (0 ≤ a ∧ a < 8)) ↔ ((0 ≤ e ∧ e ≤ m_now D 2 - 1) ∧ (0 ≤ w ∧ w ≤ (if m_now D (62 + 27 * e + 2) = -1 then 0 else 2)) ∧ (0 ≤ a ∧ a ≤ 7)) := by
      rw [q.2.2.1]
      by_cases hq : m_now D (62 + 27 * e + 2) = -1
      · rw [if_pos hq, if_pos hq]; omega
      · rw [if_neg hq, if_neg hq]; omega
    by_cases hc : (0 ≤ e ∧ e ≤ m_now D 2 - 1) ∧ (0 ≤ w ∧ w ≤ (if m_now D (62 + 27 * e + 2) = -1 then 0 else 2)) ∧ (0 ≤ a ∧ a ≤ 7)
    · rw [if_pos hc, if_pos (hcond.mpr hc)]
      have hw : w ≤ 2 := by
        have h9 := hc.2.1.2
        split at h9 <;> omega
      have := hc.2.1.1
      have := hc.2.2
      exact ⟨q.2.2.2 w a (by omega) (by omega) (by omega) (by omega), gS_mono h (by omega)⟩
    · rw [if_neg hc, if_neg (fun hh => hc (hcond.mp hh))]; exact ⟨rfl, gS_ref h hk (Or.inl ⟨rfl, rfl⟩)⟩
  · rw [if_neg (fun hh => he (by have := hh.1.1; omega)), if_neg (fun hh => he hh.1)]; exact ⟨rfl, gS_ref h hk (Or.inl ⟨rfl, rfl⟩)⟩

/-! SIMULATION: the whole state -/
theorem pR_c {P : Pg} {f g : Int → Int} (hN : nOk f) (hc : ∀ c : Int, 0 ≤ c → c < 926 → g c = f c) (h : pR P f) : pR P g := by
  obtain ⟨h0, h1, h2, h3, h4, h5, h6⟩ := h
  have n0 := hN.1
  have n1 := hN.2.1
  have n2 := hN.2.2.1
  have e0 := hc 0 (by omega) (by omega)
  have e1 := hc 1 (by omega) (by omega)
  have e2 := hc 2 (by omega) (by omega)
  refine ⟨by rw [e0]; exact h0, by rw [e1]; exact h1, by rw [e2]; exact h2, by rw [hc 3 (by omega) (by omega)]; exact h3, fun q q0 q1 => ?_, fun n m0 m1 => ?_, fun e m0 m1 => ?_⟩
  · rw [e0] at q1
    rw [hc (4 + 2 * q) (by omega) (by omega), hc (4 + 2 * q + 1) (by omega) (by omega)]; exact h4 q q0 q1
  · rw [e1] at m1
    rw [hc (14 + 2 * n) (by omega) (by omega), hc (14 + 2 * n + 1) (by omega) (by omega)]; exact h5 n m0 m1
  · rw [e2] at m1
    have g := h6 e m0 m1
    rw [hc (62 + 27 * e + 0) (by omega) (by omega), hc (62 + 27 * e + 1) (by omega) (by omega), hc (62 + 27 * e + 2) (by omega) (by omega)]
    exact ⟨g.1, g.2.1, g.2.2.1, fun w a w0 w1 a0 a1 => by rw [hc _ (by omega) (by omega)]; exact g.2.2.2 w a w0 w1 a0 a1⟩
theorem nOk_c {f g : Int → Int} (hN : nOk f) (hc : ∀ c : Int, 0 ≤ c → c < 926 → g c = f c) : nOk g :=
  nOk_of (fun c c0 c1 => by rw [hc c c0 (by omega)]; exact nOk_to hN c c0 c1)
theorem nWf_c {f g : Int → Int} (hN : nOk f) (hw : nWf f) (hc : ∀ c : Int, 0 ≤ c → c < 926 → g c = f c) : nWf g := by
  have n0 := hN.1
  have n1 := hN.2.1
  have n2 := hN.2.2.1
  have e0 := hc 0 (by omega) (by omega)
  have e1 := hc 1 (by omega) (by omega)
  have e2 := hc 2 (by omega) (by omega)
  refine ⟨by rw [e0]; exact hw.1, fun q q0 q1 => ?_, fun n m0 m1 => ?_, fun e m0 m1 => ?_⟩
  · rw [e0] at q1
    have x1 := nEnd_q f (4 + 2 * q) hN (by omega)
    have x2 := nEnd_q f (4 + 2 * q + 1) hN (by omega)
    rw [hc (4 + 2 * q) (by omega) (by omega), hc (4 + 2 * q + 1) (by omega) (by omega), e1, hc (14 + 2 * f (4 + 2 * q) + 1) (by omega) (by omega), hc (14 + 2 * f (4 + 2 * q + 1) + 1) (by omega) (by omega)]
    exact hw.2.1 q q0 q1
  · rw [e1] at m1
    rw [e0, hc (14 + 2 * n) (by omega) (by omega)]; exact hw.2.2.1 n m0 m1
  · rw [e2] at m1
    have x1 := nEdge_q f e 1 hN (by omega) (by omega)
    rw [hc (62 + 27 * e + 0) (by omega) (by omega), hc (62 + 27 * e + 1) (by omega) (by omega), hc (62 + 27 * e + 2) (by omega) (by omega), hc (14 + 2 * f (62 + 27 * e + 1) + 1) (by omega) (by omega), e0, e1]
    exact hw.2.2.2 e m0 m1
/-! what is kept -/
theorem it_putG {g : Int → Int} (n : Nat) : ∀ (i : Int) (f : Int → Int) (j : Int), it (fun c (f : Int → Int) => up f c (g c)) n i f j = if i ≤ j ∧ j < i + n then g j else f j := by
  induction n with
  | zero => intro i f j; rw [it_0, if_neg (by omega)]
  | succ n ih =>
    intro i f j
    rw [it_s, ih]
    by_cases h : i + 1 ≤ j ∧ j < i + 1 + n
    · rw [if_pos h, if_pos (by omega)]
    · rw [if_neg h]
      by_cases hj : j = i
      · rw [hj, up_s, if_pos (by omega)]
      · rw [up_n _ _ hj, if_neg (by omega)]
theorem it_cp {d e : Int} (n : Nat) : ∀ (i : Int) (K : Int → Int) (j : Int), d + i + n ≤ e + i → it (fun c (K : Int → Int) => up K (d + c) (K (e + c))) n i K j = if d + i ≤ j ∧ j < d + i + n then K (e + (j - d)) else K j := by
  induction n with
  | zero => intro i K j _; rw [it_0, if_neg (by omega)]
  | succ n ih =>
    intro i K j h
    rw [it_s, ih (i + 1) _ j (by omega)]
    by_cases hc : d + (i + 1) ≤ j ∧ j < d + (i + 1) + n
    · rw [if_pos hc, if_pos (by omega), up_n _ _ (by omega)]
    · rw [if_neg hc]
      by_cases hj : j = d + i
      · rw [hj, up_s, if_pos (by omega)]; congr 1; omega
      · rw [up_n _ _ hj, if_neg (by omega)]
theorem nPut_at (s : Int) (f K : Int → Int) (j : Int) : nPut s f K j = if 926 * s ≤ j ∧ j < 926 * s + 926 then f (j - 926 * s) else K j := by
  unfold nPut
  rw [it_putF]
  by_cases h : 926 * s ≤ j ∧ j < 926 * s + 926
  · rw [if_pos h, if_pos (by omega)]
  · rw [if_neg h, if_neg (by omega)]
theorem nTake_at (s : Int) (K f : Int → Int) (j : Int) : nTake s K f j = if 0 ≤ j ∧ j < 926 then K (926 * s + j) else f j := by
  unfold nTake
  rw [it_putG (g := fun c => K (926 * s + c))]
  by_cases h : 0 ≤ j ∧ j < 926
  · rw [if_pos h, if_pos (by omega)]
  · rw [if_neg h, if_neg (by omega)]
theorem nLv1_at (K : Int → Int) (j : Int) : nLv1 K j = if 0 ≤ j ∧ j < 3704 then K (j + 926) else K j := by
  unfold nLv1
  rw [it_shift (by omega)]
  by_cases h : 0 ≤ j ∧ j < 3704
  · rw [if_pos h, if_pos (by omega)]
  · rw [if_neg h, if_neg (by omega)]
theorem nLv2_at (s : Int) (K : Int → Int) (hs : 0 ≤ s ∧ s ≤ 4) (j : Int) : nLv2 s K j = if 926 * s ≤ j ∧ j < 926 * s + 926 then K (4630 + (j - 926 * s)) else K j := by
  unfold nLv2
  rw [it_cp 926 0 K j (by omega)]
  by_cases h : 926 * s ≤ j ∧ j < 926 * s + 926
  · rw [if_pos h, if_pos (by omega)]
  · rw [if_neg h, if_neg (by omega)]
def sK (D : Md) (i : Nat) : Int → Int := fun c => m_kept D (926 * (i : Int) + c)
def mTb (X : Md) : (Int → Int) × (Int → Int) × (Int → Int) × (Int → Int) × (Int → Int) × (Int → Int) × Int × ((Int → Int) × (Int → Int) × (Int → Int) × (Int → Int) × Int) := (m_place X, m_startFact X, m_node X, m_fact X, m_ahead X, m_inside X, m_entries X, mCa X)
theorem fR_tb {N : Int → Int} {T : Tb} {X X' : Md} (h : fR N T X) (ht : mTb X' = mTb X) (ho : mOk X') (hn : m_now X' = N) : fR N T X' := by
  have k1 : m_place X' = m_place X := congrArg (fun q => q.1) ht
  have k2 : m_startFact X' = m_startFact X := congrArg (fun q => q.2.1) ht
  have k3 : m_node X' = m_node X := congrArg (fun q => q.2.2.1) ht
  have k4 : m_fact X' = m_fact X := congrArg (fun q => q.2.2.2.1) ht
  have k5 : m_ahead X' = m_ahead X := congrArg (fun q => q.2.2.2.2.1) ht
  have k6 : m_inside X' = m_inside X := congrArg (fun q => q.2.2.2.2.2.1) ht
  have k7 : m_entries X' = m_entries X := congrArg (fun q => q.2.2.2.2.2.2.1) ht
  have c1 : m_caller X' = m_caller X := congrArg (fun q => q.2.2.2.2.2.2.2.1) ht
  have c2 : m_following X' = m_following X := congrArg (fun q => q.2.2.2.2.2.2.2.2.1) ht
  have c3 : m_firstCaller X' = m_firstCaller X := congrArg (fun q => q.2.2.2.2.2.2.2.2.2.1) ht
  have c4 : m_lastCaller X' = m_lastCaller X := congrArg (fun q => q.2.2.2.2.2.2.2.2.2.2.1) ht
  have c5 : m_callers X' = m_callers X := congrArg (fun q => q.2.2.2.2.2.2.2.2.2.2.2) ht
  obtain ⟨⟨v1, v2, v3, v4, own, v5⟩, hT, hR, hS⟩ := h
  refine ⟨⟨?_, ho, hn, by rw [k1, k2, k3, k4, k5, k6, k7]; exact v4, own, by rw [k7, c1, c2, c3, c4, c5]; exact v5⟩, hT, ⟨by rw [k7]; exact hR.1, fun i i0 i1 => ?_, fun k k0 k1' hk => ?_⟩, fun c b q0 q1 b0 b1 => by rw [k1]; exact hS c b q0 q1 b0 b1⟩
  · unfold mC at v1 ⊢; rw [k1, k7]; exact v1
  · rw [k7] at i1
    have := hR.2.1 i i0 i1
    unfold tWl mKey
    rw [k2, k3, k4, k5, k6]; exact this
  · rw [k1] at hk ⊢; exact hR.2.2 k k0 k1' hk
def gK (k : Int) (M : Mf) (X : Tx) (D : Md) : Prop := (0 ≤ f_now M ∧ f_now M ≤ 6) ∧ f_states M = m_states D ∧ (f_timesBad M = m_refused D 0 ∧ f_timesNo M = m_refused D 1 ∧ f_timesFull M = m_refused D 2) ∧ (∀ i : Int, 0 ≤ i → i < 3 → 0 ≤ m_refused D i ∧ m_refused D i ≤ k) ∧ x_length X = m_typed D ∧ x_bytes X = m_text D
def gP (P : Nat → Pg) (D : Md) : Prop := pR (P 0) (m_now D) ∧ ∀ i : Nat, (i : Int) < m_states D → pR (P (7 - (m_states D).toNat + i)) (sK D i) ∧ nOk (sK D i) ∧ nWf (sK D i)
def gO (T : Tb) (U : Sp) (X : Tx) (P : Nat → Pg) (D : Md) : Prop := tOk T ∧ uOk U ∧ xOk X ∧ (∀ j : Nat, j < 7 → pOk (P j)) ∧ mOk D ∧ nOk (m_now D) ∧ nWf (m_now D)
def gT (P0 : Pg) (N : Int → Int) (T : Tb) : Prop := t_ready T ≠ 0 → (0 ≤ t_seedProc T ∧ t_seedProc T < N 0) ∧ (0 ≤ t_seedFacts T ∧ t_seedFacts T < 256) ∧ ∃ T0 : Tb, tOk T0 ∧ T = tFresh P0 (t_seedProc T) (t_seedFacts T) T0
def gU (P0 : Pg) (U : Sp) : Prop := u_ready U ≠ 0 → ∃ U0 : Sp, U = uFresh P0 U0
def gM (D : Md) : Prop := m_known D ≠ 0 → ∃ D0 : Md, mOk D0 ∧ m_now D0 = m_now D ∧ mTb D = mTb (mFilled (m_now D 4) (m_now D 3) D0)
def gS (k : Int) (M : Mf) (T : Tb) (U : Sp) (X : Tx) (P : Nat → Pg) (D : Md) : Prop := gK k M X D ∧ gP P D ∧ gO T U X P D ∧ gT (P 0) (m_now D) T ∧ gU (P 0) U ∧ gM D
theorem gS_f {k : Int} {M : Mf} {T : Tb} {U : Sp} {X : Tx} {P : Nat → Pg} {D : Md} (h : gS k M T U X P D) (hk : k ≤ 1000000) : fOk M := by
  obtain ⟨⟨k1, k2, ⟨k3, k4, k5⟩, k6, _⟩, _, ⟨_, _, _, _, hD, _⟩, _⟩ := h
  have r0 := k6 0 (by omega) (by omega)
  have r1 := k6 1 (by omega) (by omega)
  have r2 := k6 2 (by omega) (by omega)
  have hs := hD.2.1
  exact ⟨k1, by omega, by omega, by omega, by omega⟩
/-- a table of the class, asked for -/
theorem gT_fill {P0 : Pg} {N : Int → Int} {T : Tb} {q s : Int} (hP : pOk P0) (hT : tOk T) (h : gT P0 N T) (hN : nOk N) (hq : 0 ≤ q ∧ q < N 0) (hs : 0 ≤ s ∧ s < 256) : tOk (tFill P0 q s T) ∧ ∃ T0 : Tb, tOk T0 ∧ tFill P0 q s T = tFresh P0 q s T0 := by
  have n0 := hN.1
  refine ⟨tFill_ok hP hT (by omega) hs, ?_⟩
  unfold tFill
  by_cases hc : t_ready T ≠ 0 ∧ t_seedProc T = q ∧ t_seedFacts T = s
  · rw [if_pos hc]
    obtain ⟨_, _, T0, h1, h2⟩ := h hc.1
    rw [hc.2.1, hc.2.2] at h2
    exact ⟨T0, h1, h2⟩
  · rw [if_neg hc]; exact ⟨T, hT, rfl⟩
theorem gT_new {P0 : Pg} {N : Int → Int} {T : Tb} {q s : Int} (hN : nOk N) (hw : nWf N) (hP : pR P0 N) (hq : 0 ≤ q ∧ q < N 0) (hs : 0 ≤ s ∧ s < 256) (h : ∃ T0 : Tb, tOk T0 ∧ T = tFresh P0 q s T0) {D : Md} (hD : mOk D) (hn : m_now D = N) : gT P0 N T := by
  obtain ⟨T0, h1, h2⟩ := h
  have f := (fill_sim hN hw hP hq hs h1 hD hn).2
  rw [← h2] at f
  intro _
  rw [f.2.1, f.2.2]
  exact ⟨hq, hs, T0, h1, h2⟩
theorem mFilled_tb {N : Int → Int} {n x : Int} {D : Md} (hN : nOk N) (hw : nWf N) (hD : mOk D) (hn : m_now D = N) (hx : 0 ≤ n ∧ n < N 1) : mN (mFilled n x D) = mN D := (mFilled_v hN hw hD hn hx).2
theorem gM_kn {D : Md} (hD : mOk D) (hN : nOk (m_now D)) (hw : nWf (m_now D)) (h : gM D) : gM (mKn D) ∧ ∃ D0 : Md, mOk D0 ∧ m_now D0 = m_now D ∧ mTb (mKn D) = mTb (mFilled (m_now D 4) (m_now D 3) D0) := by
  have e := (mKn_ok hD hN hw).2
  have key : ∃ D0 : Md, mOk D0 ∧ m_now D0 = m_now D ∧ mTb (mKn D) = mTb (mFilled (m_now D 4) (m_now D 3) D0) := by
    by_cases hk : m_known D = 0
    · refine ⟨D, hD, rfl, ?_⟩
      unfold mKn
      rw [if_pos hk]; rfl
    · have : mKn D = D := if_neg hk
      rw [this]; exact h hk
  refine ⟨fun _ => ?_, key⟩
  rw [e]; exact key
/-- the reference's other fields stay when it fills its table -/
def mN' (X : Md) : (Int → Int) × (Int → Int) × (Int → Int) × Int × (Int → Int) × (Int → Int) × Int × (Int → Int) × Int × (Int → Int) × Int × (Int → Int) × Int × Int := (m_refused X, m_now X, m_kept X, m_states X, m_loose X, m_stack X, m_high X, m_pairs X, m_told X, m_text X, m_typed X, m_orders X, m_written X, m_look X)
theorem mKn_N {D : Md} (hD : mOk D) (hN : nOk (m_now D)) (hw : nWf (m_now D)) : mN' (mKn D) = mN' D := by
  unfold mKn
  by_cases hk : m_known D = 0
  · rw [if_pos hk]
    have e := nEnd_q (m_now D) 4 hN (by omega)
    have w := hw.2.1 0 (by omega) (by have := hw.1; omega)
    have f := (mFilled_v (x := m_now D 3) hN hw hD rfl ⟨e.1, w.1⟩).2
    exact congrArg (fun q => (q.1, q.2.1, q.2.2.1, q.2.2.2.1, q.2.2.2.2.2)) f
  · rw [if_neg hk]
/-- a step that leaves what is told, kept and typed -/
theorem gS_D {k k' : Int} {M : Mf} {T T' : Tb} {U U' : Sp} {X : Tx} {P : Nat → Pg} {D D' : Md} (h : gS k M T U X P D) (hk : k ≤ k') (e : (m_refused D', m_now D', m_kept D', m_states D', m_text D', m_typed D') = (m_refused D, m_now D, m_kept D, m_states D, m_text D, m_typed D)) (hD : mOk D') (hT : tOk T') (hU : uOk U') (gt : gT (P 0) (m_now D) T') (gu : gU (P 0) U') (gm : gM D') : gS k' M T' U' X P D' := by
  have e1 : m_refused D' = m_refused D := congrArg (fun q => q.1) e
  have e2 : m_now D' = m_now D := congrArg (fun q => q.2.1) e
  have e3 : m_kept D' = m_kept D := congrArg (fun q => q.2.2.1) e
  have e4 : m_states D' = m_states D := congrArg (fun q => q.2.2.2.1) e
  have e5 : m_text D' = m_text D := congrArg (fun q => q.2.2.2.2.1) e
  have e6 : m_typed D' = m_typed D := congrArg (fun q => q.2.2.2.2.2) e
  obtain ⟨⟨k1, k2, k3, k4, k5, k6⟩, ⟨p1, p2⟩, ⟨_, _, o3, o4, _, o6, o7⟩, _, _, _⟩ := h
  refine ⟨⟨k1, by rw [e4]; exact k2, by rw [e1]; exact k3, fun i i0 i1 => by rw [e1]; have := k4 i i0 i1; omega, by rw [e6]; exact k5, by rw [e5]; exact k6⟩, ⟨by rw [e2]; exact p1, fun i hi => ?_⟩, ⟨hT, hU, o3, o4, hD, by rw [e2]; exact o6, by rw [e2]; exact o7⟩, by rw [e2]; exact gt, gu, gm⟩
  rw [e4] at hi ⊢
  unfold sK
  rw [e3]; exact p2 i hi
theorem gS_mono {k k' : Int} {M : Mf} {T : Tb} {U : Sp} {X : Tx} {P : Nat → Pg} {D : Md} (h : gS k M T U X P D) (hk : k ≤ k') : gS k' M T U X P D := gS_D h hk rfl h.2.2.1.2.2.2.2.1 h.2.2.1.1 h.2.2.1.2.1 h.2.2.2.1 h.2.2.2.2.1 h.2.2.2.2.2
/-- a refused call -/
theorem gS_ref {k : Int} {M : Mf} {T : Tb} {U : Sp} {X : Tx} {P : Nat → Pg} {D : Md} {i w : Int} (h : gS k M T U X P D) (hk : 0 ≤ k ∧ k < 1000000) (hi : (w = -2 ∧ i = 0) ∨ (w = -3 ∧ i = 1) ∨ (w = -4 ∧ i = 2)) : gS (k + 1) (fRef w M) T U X P (mBump i D) := by
  obtain ⟨⟨k1, k2, k3, k4, k5, k6⟩, ⟨p1, p2⟩, ⟨o1, o2, o3, o4, o5, o6, o7⟩, g1, g2, g3⟩ := h
  have r0 := k4 0 (by omega) (by omega)
  have r1 := k4 1 (by omega) (by omega)
  have r2 := k4 2 (by omega) (by omega)
  have hc : ∀ j : Int, 0 ≤ j → j < 3 → 0 ≤ up (m_refused D) i (m_refused D i + 1) j ∧ up (m_refused D) i (m_refused D i + 1) j ≤ k + 1 := by
    intro j j0 j1
    have := k4 j j0 j1
    have hii : i = 0 ∨ i = 1 ∨ i = 2 := by omega
    rw [up_a]
    split
    · rcases hii with rfl | rfl | rfl <;> omega
    · omega
  have hok : mOk (mBump i D) := by
    obtain ⟨h1, h2, h3, h4, h5, h6, h7, h8, h9, h10, h11, h12, h13, h14, h15, h16, h17, h18, h19, h20, h21, h22, h23, h24, h25⟩ := o5
    exact ⟨fun j j0 j1 => by have := hc j j0 j1; exact ⟨this.1, by show up (m_refused D) i (m_refused D i + 1) j ≤ 1000000; omega⟩, h2, h3, h4, h5, h6, h7, h8, h9, h10, h11, h12, h13, h14, h15, h16, h17, h18, h19, h20, h21, h22, h23, h24, h25⟩
  have hK : gK (k + 1) (fRef w M) X (mBump i D) := by
    rcases hi with ⟨rfl, rfl⟩ | ⟨rfl, rfl⟩ | ⟨rfl, rfl⟩
    · rw [show fRef (-2) M = fs_timesBad M (f_timesBad M + 1) from if_pos rfl]
      refine ⟨k1, k2, ⟨?_, ?_, ?_⟩, hc, k5, k6⟩
      · show f_timesBad M + 1 = up (m_refused D) 0 (m_refused D 0 + 1) 0; rw [up_s]; omega
      · show f_timesNo M = up (m_refused D) 0 (m_refused D 0 + 1) 1; rw [up_n _ _ (by omega)]; omega
      · show f_timesFull M = up (m_refused D) 0 (m_refused D 0 + 1) 2; rw [up_n _ _ (by omega)]; omega
    · rw [show fRef (-3) M = fs_timesNo M (f_timesNo M + 1) from (if_neg (by decide)).trans (if_pos rfl)]
      refine ⟨k1, k2, ⟨?_, ?_, ?_⟩, hc, k5, k6⟩
      · show f_timesBad M = up (m_refused D) 1 (m_refused D 1 + 1) 0; rw [up_n _ _ (by omega)]; omega
      · show f_timesNo M + 1 = up (m_refused D) 1 (m_refused D 1 + 1) 1; rw [up_s]; omega
      · show f_timesFull M = up (m_refused D) 1 (m_refused D 1 + 1) 2; rw [up_n _ _ (by omega)]; omega
    · rw [show fRef (-4) M = fs_timesFull M (f_timesFull M + 1) from (if_neg (by decide)).trans (if_neg (by decide))]
      refine ⟨k1, k2, ⟨?_, ?_, ?_⟩, hc, k5, k6⟩
      · show f_timesBad M = up (m_refused D) 2 (m_refused D 2 + 1) 0; rw [up_n _ _ (by omega)]; omega
      · show f_timesNo M = up (m_refused D) 2 (m_refused D 2 + 1) 1; rw [up_n _ _ (by omega)]; omega
      · show f_timesFull M + 1 = up (m_refused D) 2 (m_refused D 2 + 1) 2; rw [up_s]; omega
  exact ⟨hK, ⟨p1, p2⟩, ⟨o1, o2, o3, o4, hok, o6, o7⟩, g1, g2, g3⟩
/-- the tables of both, asked for from START -/
theorem gS_q {k : Int} {M : Mf} {T : Tb} {U : Sp} {X : Tx} {P : Nat → Pg} {D : Md} (h : gS k M T U X P D) : gS k M (tFill (P 0) 0 (p_start (P 0)) T) U X P (mKn D) ∧ gS k M T U X P (mKn D) ∧ fR (m_now D) (tFill (P 0) 0 (p_start (P 0)) T) (mKn D) ∧ m_now (mKn D) = m_now D := by
  obtain ⟨g1, ⟨p1, p2⟩, ⟨o1, o2, o3, o4, o5, o6, o7⟩, gt, gu, gm⟩ := id h
  have n3 := o6.2.2.2.1
  have e3 := p1.2.2.2.1
  have hq : 0 ≤ (0 : Int) ∧ 0 < m_now D 0 := ⟨by omega, by have := o7.1; omega⟩
  have f := gT_fill (s := p_start (P 0)) (o4 0 (by omega)) o1 gt o6 hq (by omega)
  have kn := mKn_ok o5 o6 o7
  have knN := mKn_N o5 o6 o7
  have km := gM_kn o5 o6 o7 gm
  have hfr : fR (m_now D) (tFill (P 0) 0 (p_start (P 0)) T) (mKn D) := by
    obtain ⟨T0, t1, t2⟩ := f.2
    obtain ⟨D0, d1, d2, d3⟩ := km.2
    have s := (fill_sim o6 o7 p1 hq (s := p_start (P 0)) (by omega) t1 d1 d2).1
    rw [← t2, e3] at s
    rw [e3]
    exact fR_tb s d3 kn.1 kn.2
  have ee : (m_refused (mKn D), m_now (mKn D), m_kept (mKn D), m_states (mKn D), m_text (mKn D), m_typed (mKn D)) = (m_refused D, m_now D, m_kept D, m_states D, m_text D, m_typed D) := congrArg (fun (q : (Int → Int) × (Int → Int) × (Int → Int) × Int × (Int → Int) × (Int → Int) × Int × (Int → Int) × Int × (Int → Int) × Int × (Int → Int) × Int × Int) => (q.1, q.2.1, q.2.2.1, q.2.2.2.1, q.2.2.2.2.2.2.2.2.2.1, q.2.2.2.2.2.2.2.2.2.2.1)) knN
  exact ⟨gS_D h (Int.le_refl _) ee kn.1 f.1 o2 (gT_new o6 o7 p1 hq (by omega) f.2 o5 rfl) gu km.1, gS_D h (Int.le_refl _) ee kn.1 o1 o2 gt gu km.1, hfr, kn.2⟩

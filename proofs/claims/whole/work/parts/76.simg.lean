/-! SIMULATION: THE TABLE, filled -/
theorem ret_aux {N : Int → Int} {P : Pg} {T0 : Tb} {X0 : Md} {p a z : Int} (hN : nOk N) (hw : nWf N) (hP : pR P N) (h0 : t_size T0 = m_entries X0) (hsb : sB N T0) (hz : 0 ≤ z ∧ z < m_entries X0) (m : Nat) : ∀ (j : Int) (T : Tb) (X : Md), 0 ≤ j → j + m = t_siteCount T0 → gR N T0 X0 T X → mCa X = mCa X0 → gR N T0 X0 (it (tRetF P p a z) m j T) (List.foldl (fun Y v => mXSv z v Y) X ((sL (t_sites T0) m j).filter (sCd P (t_keys T0) p a))) ∧ mCa (List.foldl (fun Y v => mXSv z v Y) X ((sL (t_sites T0) m j).filter (sCd P (t_keys T0) p a))) = mCa X0 := by
  induction m with
  | zero => intro j T X _ _ h hc; exact ⟨h, hc⟩
  | succ m ih =>
    intro j T X j0 jm h hc
    obtain ⟨g1, g2, g3, g4⟩ := id h
    have ge := g4.1
    have hs : t_sites T = t_sites T0 := congrArg (fun q => q.1) g3
    have hb := hsb.2 j j0 (by omega)
    have n2 := hN.2.2.1
    have hX := g1.1.2.2.1
    have hk : tFb T (t_sites T0 j / 32) = t_keys T0 (t_sites T0 j / 32) % 8 := by
      show t_keys T (t_sites T0 j / 32) % 8 = _
      rw [(g2.2.1 (t_sites T0 j / 32) (by omega) hb.2.1).1]
    have hcd : (p_callee P (t_sites T0 j % 32) = p ∧ tb (pReach P (t_sites T0 j % 32) 1 (tFb T (t_sites T0 j / 32))) a = true) ↔ sCd P (t_keys T0) p a (t_sites T0 j) = true := by
      unfold sCd
      rw [hk, Bool.and_eq_true, decide_eq_true_iff]
    rw [it_s]
    show gR N T0 X0 (it (tRetF P p a z) m (j + 1) (tRetF P p a z j T)) (List.foldl (fun Y v => mXSv z v Y) X ((t_sites T0 j :: sL (t_sites T0) m (j + 1)).filter (sCd P (t_keys T0) p a))) ∧ mCa (List.foldl (fun Y v => mXSv z v Y) X ((t_sites T0 j :: sL (t_sites T0) m (j + 1)).filter (sCd P (t_keys T0) p a))) = mCa X0
    rw [List.filter_cons]
    unfold tRetF
    rw [hs]
    by_cases hcond : sCd P (t_keys T0) p a (t_sites T0 j) = true
    · rw [if_pos (hcd.mpr hcond), if_pos hcond, List.foldl_cons]
      have ff := fR_fact g1 (t := z) (by omega)
      have vz := g1.1.2.2.2.1.1 z (by omega) (by omega)
      have l := land_sim (T := T) (X := X) (t := t_sites T0 j / 32) (e := t_sites T0 j % 32) (w := 2) (f := m_fact X z) (y := t_sites T0 j / 32) (z := z) hN hw hP g1 (by omega) (by omega) (by omega) vz.2.2.2.2.2.1 (by omega) (by omega)
      have ex : mXSv z (t_sites T0 j) X = mAll (m_startFact X (t_sites T0 j / 32)) (N (62 + 27 * (t_sites T0 j % 32) + 1)) (N (62 + 27 * (t_sites T0 j % 32) + 3 + 8 * 2 + m_fact X z)) (t_sites T0 j / 32) z X := by
        unfold mXSv; rw [hX]
      rw [ff.1, ex]
      exact ih (j + 1) _ _ (by omega) (by omega) ⟨l.1, tEx_tr g2 l.2.1, l.2.2.1.trans g3, mEx_tr g4 l.2.2.2.1⟩ (l.2.2.2.2.trans hc)
    · rw [if_neg (fun hh => hcond (hcd.mp hh)), if_neg hcond]
      exact ih (j + 1) T X (by omega) (by omega) h hc
theorem ret_sim {N : Int → Int} {P : Pg} {T : Tb} {X : Md} {z : Int} (hN : nOk N) (hw : nWf N) (hP : pR P N) (h : fR N T X) (hcr : cR P T X) (hsb : sB N T) (hz : 0 ≤ z ∧ z < m_entries X) :
    gR N T X (tRet P z T) (mXF z 16384 (m_firstCaller X (8 * N (14 + 2 * m_node X z) + m_startFact X z)) X) ∧ mCa (mXF z 16384 (m_firstCaller X (8 * N (14 + 2 * m_node X z) + m_startFact X z)) X) = mCa X := by
  have ff := fR_fact h hz
  have vz := h.1.2.2.2.1.1 z hz.1 hz.2
  have n0 := hN.1
  have n1 := hN.2.1
  have hpr := hw.2.2.1 (m_node X z) vz.2.2.2.1.1 vz.2.2.2.1.2
  have hpr2 := nProc_q N (m_node X z) hN (by omega)
  have pn := (hP.2.2.2.2.2.1 (m_node X z) vz.2.2.2.1.1 vz.2.2.2.1.2).1
  have hl := hcr (N (14 + 2 * m_node X z)) (m_startFact X z) hpr2.1 (by omega) vz.2.2.2.2.1.1 vz.2.2.2.2.1.2
  have e : mXF z 16384 (m_firstCaller X (8 * N (14 + 2 * m_node X z) + m_startFact X z)) X = List.foldl (fun Y v => mXSv z v Y) X (mLs X (8 * N (14 + 2 * m_node X z) + m_startFact X z)) := mXF_fold z 16384 _ X
  rw [e, hl]
  unfold tRet
  rw [ff.2.2, ff.2.1, pn]
  exact ret_aux hN hw hP h.2.2.1.1 hsb hz (t_siteCount T).toNat 0 T X (by omega) (by have := hsb.1; omega) ⟨h, tEx_rf T, rfl, mEx_rf X⟩ rfl
/-- between two takings -/
def bR (N : Int → Int) (P : Pg) (T : Tb) (X : Md) : Prop := fR N T X ∧ cR P T X ∧ sB N T
theorem edge_sim {N : Int → Int} {P : Pg} {T : Tb} {X : Md} {t n e : Int} (hN : nOk N) (hw : nWf N) (hP : pR P N) (h : bR N P T X) (ht : 0 ≤ t ∧ t < m_entries X) (he : 0 ≤ e ∧ e < N 2) (hca : m_callers X + 8 * (if N (62 + 27 * e + 0) = n ∧ N (62 + 27 * e + 2) ≠ -1 then 1 else 0) ≤ 16384) (hsc : t_siteCount T + (if N (62 + 27 * e + 0) = n ∧ N (62 + 27 * e + 2) ≠ -1 then 1 else 0) ≤ 2048) :
    bR N P (tTakeF P t n e T) (mEF t n e X) ∧ tEx T (tTakeF P t n e T) ∧ mEx X (mEF t n e X) ∧ t_siteCount (tTakeF P t n e T) = t_siteCount T + (if N (62 + 27 * e + 0) = n ∧ N (62 + 27 * e + 2) ≠ -1 then 1 else 0) ∧ m_callers (mEF t n e X) ≤ m_callers X + 8 * (if N (62 + 27 * e + 0) = n ∧ N (62 + 27 * e + 2) ≠ -1 then 1 else 0) := by
  obtain ⟨h1, h2, h3⟩ := id h
  have pe := hP.2.2.2.2.2.2 e he.1 he.2
  have cal := (vV_EF (t := t) (n := n) (e := e) hN hw h1.1 ht he hca).2.2
  have last : ∀ (T' : Tb) (X' : Md), bR N P T' X' → m_entries X ≤ m_entries X' → bR N P (tCome P (tLand P T' t e) (pReach P e 0 (tFb T' t)) t (-1) T') (mEP t e X') ∧ tEx T' (tCome P (tLand P T' t e) (pReach P e 0 (tFb T' t)) t (-1) T') ∧ tSi (tCome P (tLand P T' t e) (pReach P e 0 (tFb T' t)) t (-1) T') = tSi T' ∧ mEx X' (mEP t e X') := by
    intro T' X' hb hE
    have v := hb.1.1.2.2.2.1.1 t ht.1 (by omega)
    have l := land_sim (T := T') (X := X') (t := t) (e := e) (w := 0) (f := m_fact X' t) (y := t) (z := -1) hN hw hP hb.1 (by omega) he (by omega) v.2.2.2.2.2.1 (by omega) (by omega)
    have em : mEP t e X' = mAll (m_startFact X' t) (N (62 + 27 * e + 1)) (N (62 + 27 * e + 3 + 8 * 0 + m_fact X' t)) t (-1) X' := by unfold mEP; rw [hb.1.1.2.2.1]
    rw [(fR_fact hb.1 (t := t) (by omega)).1, em]
    exact ⟨⟨l.1, cR_ext hb.2.1 hb.2.2 l.2.1 l.2.2.1 l.2.2.2.2, sB_ext hb.2.2 l.2.1 l.2.2.1⟩, l.2.1, l.2.2.1, l.2.2.2.1⟩
  have key : bR N P (tTakeF P t n e T) (mEF t n e X) ∧ tEx T (tTakeF P t n e T) ∧ mEx X (mEF t n e X) ∧ t_siteCount (tTakeF P t n e T) = t_siteCount T + (if N (62 + 27 * e + 0) = n ∧ N (62 + 27 * e + 2) ≠ -1 then 1 else 0) := by
    unfold tTakeF mEF
    rw [pe.1, h1.1.2.2.1]
    by_cases hn : N (62 + 27 * e + 0) = n
    · rw [if_pos hn, if_pos hn]
      by_cases hq : N (62 + 27 * e + 2) = -1
      · have et : tTakeE P t e T = T := if_pos (by rw [pe.2.2.1]; exact hq)
        have ec : mEC t e X = X := by unfold mEC; rw [h1.1.2.2.1]; exact if_pos hq
        rw [et, ec, if_neg (fun hh => hh.2 hq)]
        have l := last T X h (Int.le_refl _)
        exact ⟨l.1, l.2.1, l.2.2.2, by rw [show t_siteCount (tCome P (tLand P T t e) (pReach P e 0 (tFb T t)) t (-1) T) = t_siteCount T from congrArg (fun q => q.2) l.2.2.1]; omega⟩
      · have et : tTakeE P t e T = tEnter P t e T := if_neg (by rw [pe.2.2.1]; exact hq)
        have ec : mEC t e X = mTakesCall t e X := by unfold mEC; rw [h1.1.2.2.1]; exact if_neg hq
        rw [if_pos ⟨hn, hq⟩] at hca hsc ⊢
        rw [et, ec]
        have s := enter_sim hN hw hP h1 h2 h3 ht he hq (by omega) (by omega)
        have l := last (tEnter P t e T) (mTakesCall t e X) ⟨s.1, s.2.2.2.2.1, s.2.2.2.2.2⟩ s.2.2.1.1
        exact ⟨l.1, tEx_tr s.2.1 l.2.1, mEx_tr s.2.2.1 l.2.2.2, by rw [show t_siteCount (tCome P (tLand P (tEnter P t e T) t e) (pReach P e 0 (tFb (tEnter P t e T) t)) t (-1) (tEnter P t e T)) = t_siteCount (tEnter P t e T) from congrArg (fun q => q.2) l.2.2.1]; exact s.2.2.2.1⟩
    · rw [if_neg hn, if_neg hn, if_neg (fun hh => hn hh.1)]
      exact ⟨h, tEx_rf T, mEx_rf X, by omega⟩
  exact ⟨key.1, key.2.1, key.2.2.1, key.2.2.2, cal⟩
theorem sS_TE {N : Int → Int} {X : Md} {t : Int} (hN : nOk N) (hw : nWf N) (h : wV N t X) (ht : t < m_entries X) : sS N (m_place (mTE t X)) (t + 1) (N 2).toNat 0 = sS N (m_place X) t (N 2).toNat 0 + dgE N (m_node X t) (N 2).toNat 0 := by
  have w := wV_TE hN hw h ht
  obtain ⟨h1, h2, h3⟩ := h
  have hn2 := hN.2.2.1
  have hi := h1.2.2.2.1.1 t h2.1 ht
  have hn1 := hN.2.1
  have hstep := sS_step (n0 := m_node X t) (k0 := mKey X t) (pl := m_place X) (t := t) hN (fun k k0 k1 => ⟨fun hh => by
      rcases h1.2.2.2.1.2 k k0 k1 with h4 | ⟨h4, h5⟩
      · omega
      · rw [hh, show t + 1 - 1 = t by omega] at h5
        exact h5.symm, fun hh => by rw [hh]; exact hi.1⟩) h2.1 (by show 64 * m_node X t ≤ (8 * m_node X t + m_startFact X t) * 8 + m_fact X t ∧ (8 * m_node X t + m_startFact X t) * 8 + m_fact X t < 64 * m_node X t + 64; omega) (N 2).toNat 0 (by omega) (by omega)
  have hs := sS_same (pl := m_place X) (pl' := m_place (mTE t X)) (t := t + 1) hN (fun k k0 k1 => by
    have e := w.2.2.2.2.2.1 k k0 k1
    by_cases hz : m_place X k = 0
    · rcases e.2 hz with h9 | h9
      · omega
      · omega
    · rw [e.1 hz]) (N 2).toNat 0 (by omega) (by omega)
  rw [hs, hstep]
theorem take_sim {N : Int → Int} {P : Pg} {T : Tb} {X : Md} {t : Int} (hN : nOk N) (hw : nWf N) (hP : pR P N) (h : bR N P T X) (ht : 0 ≤ t ∧ t < m_entries X) (hca : m_callers X + 8 * dgE N (m_node X t) (N 2).toNat 0 ≤ 16384) (hsc : t_siteCount T + dgE N (m_node X t) (N 2).toNat 0 ≤ 2048) :
    bR N P (tTake P t T) (mTE t X) ∧ tEx T (tTake P t T) ∧ t_siteCount (tTake P t T) ≤ t_siteCount T + dgE N (m_node X t) (N 2).toNat 0 := by
  obtain ⟨h1, h2, h3⟩ := id h
  have n2 := hN.2.2.1
  have ff := fR_fact h1 ht
  have v := h1.1.2.2.2.1.1 t ht.1 ht.2
  have pk := (hP.2.2.2.2.2.1 (m_node X t) v.2.2.2.1.1 v.2.2.2.1.2).2
  have pe := hP.2.2.1
  have hd := dgE_0 N (m_node X t) (N 2).toNat 0
  unfold tTake mTE
  rw [ff.2.2, pk, h1.1.2.2.1, pe]
  by_cases hx : N (14 + 2 * m_node X t + 1) = 1
  · rw [if_pos hx, if_pos hx]
    have r := ret_sim hN hw hP h1 h2 h3 ht
    refine ⟨⟨r.1.1, cR_ext h2 h3 r.1.2.1 r.1.2.2.1 r.2, sB_ext h3 r.1.2.1 r.1.2.2.1⟩, r.1.2.1, ?_⟩
    rw [show t_siteCount (tRet P t T) = t_siteCount T from congrArg (fun q => q.2) r.1.2.2.1]; omega
  · rw [if_neg hx, if_neg hx]
    have key := it_rel (f := tTakeF P t (m_node X t)) (g := mEF t (m_node X t)) (fun e T' X' => bR N P T' X' ∧ tEx T T' ∧ mEx X X' ∧ t_siteCount T' + dgE N (m_node X t) (N 2 - e).toNat e ≤ t_siteCount T + dgE N (m_node X t) (N 2).toNat 0 ∧ m_callers X' + 8 * dgE N (m_node X t) (N 2 - e).toNat e ≤ m_callers X + 8 * dgE N (m_node X t) (N 2).toNat 0) (b := N 2) (N 2).toNat 0 T X (by omega) ⟨h, tEx_rf T, mEx_rf X, by rw [show N 2 - 0 = N 2 by omega]; omega, by rw [show N 2 - 0 = N 2 by omega]; omega⟩ (fun e T' X' e0 e1 hI => by
      obtain ⟨g1, g2, g3, g4, g5⟩ := hI
      have ge := g3.1
      rw [show (N 2 - e).toNat = (N 2 - (e + 1)).toNat + 1 by omega] at g4 g5
      have g4' : t_siteCount T' + ((if N (62 + 27 * e + 0) = m_node X t ∧ N (62 + 27 * e + 2) ≠ -1 then 1 else 0) + dgE N (m_node X t) (N 2 - (e + 1)).toNat (e + 1)) ≤ t_siteCount T + dgE N (m_node X t) (N 2).toNat 0 := g4
      have g5' : m_callers X' + 8 * ((if N (62 + 27 * e + 0) = m_node X t ∧ N (62 + 27 * e + 2) ≠ -1 then 1 else 0) + dgE N (m_node X t) (N 2 - (e + 1)).toNat (e + 1)) ≤ m_callers X + 8 * dgE N (m_node X t) (N 2).toNat 0 := g5
      have hd2 := dgE_0 N (m_node X t) (N 2 - (e + 1)).toNat (e + 1)
      have s := edge_sim (t := t) (n := m_node X t) (e := e) hN hw hP g1 (by omega) ⟨e0, e1⟩ (by omega) (by omega)
      exact ⟨s.1, tEx_tr g2 s.2.1, mEx_tr g3 s.2.2.1, by have := s.2.2.2.1; omega, by have := s.2.2.2.2; omega⟩)
    refine ⟨key.1, key.2.1, ?_⟩
    have k4 := key.2.2.2.1
    rw [show N 2 - N 2 = 0 by omega] at k4
    have h4 : dgE N (m_node X t) (0 : Int).toNat (N 2) = 0 := rfl
    omega
theorem run_sim {N : Int → Int} {P : Pg} (hN : nOk N) (hw : nWf N) (hP : pR P N) (k : Nat) : ∀ (t : Int) (T : Tb) (X : Md), wV N t X → bR N P T X → t_siteCount T ≤ sS N (m_place X) t (N 2).toNat 0 → fR N (tRun P k t T) (mFl k t X) ∧ tEx T (tRun P k t T) := by
  induction k with
  | zero => intro t T X _ h _; exact ⟨h.1, tEx_rf T⟩
  | succ k ih =>
    intro t T X hV h hs
    unfold tRun mFl
    rw [h.1.2.2.1.1]
    by_cases ht : t < m_entries X
    · rw [if_pos ht, if_pos ht]
      have w := wV_TE hN hw hV ht
      have s := take_sim (t := t) hN hw hP h ⟨hV.2.1.1, ht⟩ w.1 (by have := w.2.1; omega)
      have e := sS_TE hN hw hV ht
      have r := ih (t + 1) (tTake P t T) (mTE t X) w.2.2.1 s.1 (by have := s.2.2; omega)
      exact ⟨r.1, tEx_tr s.2.1 r.2⟩
    · rw [if_neg ht, if_neg ht]; exact ⟨h.1, tEx_rf T⟩
theorem tClear_at (q s : Int) (T : Tb) : (t_ready (tClear q s T) = 1 ∧ t_seedProc (tClear q s T) = q ∧ t_seedFacts (tClear q s T) = s ∧ t_size (tClear q s T) = 0 ∧ t_siteCount (tClear q s T) = 0) ∧ ∀ j : Int, 0 ≤ j → j < 192 → t_seen (tClear q s T) j = 0 := by
  unfold tClear
  have := it_inv (f := fun i (T : Tb) => ts_seen T (up (t_seen T) i 0)) (fun i Y => (t_ready Y = 1 ∧ t_seedProc Y = q ∧ t_seedFacts Y = s ∧ t_size Y = 0 ∧ t_siteCount Y = 0) ∧ ∀ j : Int, 0 ≤ j → j < i → t_seen Y j = 0) (b := 192) 192 0 (ts_siteCount (ts_size (ts_seedFacts (ts_seedProc (ts_ready T 1) q) s) 0) 0) (by omega) ⟨⟨rfl, rfl, rfl, rfl, rfl⟩, fun j j0 j1 => absurd j1 (by omega)⟩ (fun i Y i0 i1 hY => ⟨hY.1, fun j j0 j1 => by
    show up (t_seen Y) i 0 j = 0
    rw [up_a]
    split
    · rfl
    · exact hY.2 j j0 (by omega)⟩)
  exact this
def tFresh (P : Pg) (q s : Int) (T : Tb) : Tb := tRun P 1536 0 (it (tSeedF P q s) 8 0 (tClear q s T))
theorem fill_sim {N : Int → Int} {P : Pg} {T : Tb} {M : Md} {q s : Int} (hN : nOk N) (hw : nWf N) (hP : pR P N) (hq : 0 ≤ q ∧ q < N 0) (hs : 0 ≤ s ∧ s < 256) (hT : tOk T) (hM : mOk M) (hm : m_now M = N) :
    fR N (tFresh P q s T) (mFilled (N (4 + 2 * q)) s M) ∧ t_ready (tFresh P q s T) = 1 ∧ t_seedProc (tFresh P q s T) = q ∧ t_seedFacts (tFresh P q s T) = s := by
  have n0 := hN.1
  have wq := hw.2.1 q hq.1 hq.2
  have en := nEnd_q N (4 + 2 * q) hN (by omega)
  have pq := (hP.2.2.2.2.1 q hq.1 hq.2).1
  obtain ⟨⟨c1, c2, c3, c4, c5⟩, c6⟩ := tClear_at q s T
  have hV := mClr_v hM hm
  have hls : ∀ key : Int, 0 ≤ key → key < 40 → mLs (mClr M) key = [] := fun key k0 k1 => by
    unfold mLs
    rw [show m_firstCaller (mClr M) key = -1 from cCz_a _ k0 k1]
    exact mCh_z _ _ _
  have h0 : bR N P (tClear q s T) (mClr M) := by
    refine ⟨⟨hV, tClear_ok hT (by omega) hs, ⟨c4, fun i i0 i1 => absurd (show i < 0 from i1) (by omega), fun k k0 k1 hk => absurd (show m_place (mClr M) k = 0 from cPz_a _ k0 k1) hk⟩, fun c b k0 k1 b0 b1 => ?_⟩, fun q c q0 q1 k0 k1 => ?_, ⟨by omega, fun i i0 i1 => absurd i1 (by omega)⟩⟩
    · rw [c6 c k0 k1, tb_0]
      exact ⟨fun hh => absurd hh (by decide), fun hh => absurd (show m_place (mClr M) (c * 8 + b) = 0 from cPz_a _ (by omega) (by omega)) hh⟩
    · rw [hls _ (by omega) (by omega)]
      unfold sAll
      rw [c5]; rfl
  have h1 := it_rel (f := tSeedF P q s) (g := mSeedF (N (4 + 2 * q)) s) (fun _ T' X' => bR N P T' X' ∧ tEx (tClear q s T) T' ∧ tSi T' = tSi (tClear q s T)) (b := 8) 8 0 (tClear q s T) (mClr M) (by omega) ⟨h0, tEx_rf _, rfl⟩ (fun a T' X' a0 a1 hI => by
    obtain ⟨g1, g2, g3⟩ := hI
    have hE := g1.1.1.2.1.2.2.2.2.2.2.2.2.1
    have hbit := tb_b1 (x := s) (k := a) hs.1 a0
    unfold tSeedF mSeedF
    rw [pq]
    by_cases hb : tb s a = true
    · rw [if_pos hb, if_pos (hbit.mpr hb)]
      have e := entry_sim (c := a) (n := N (4 + 2 * q)) (y := -1) (z := -1) hN hP g1.1 ⟨a0, a1⟩ ⟨en.1, wq.1⟩ (by omega) (by omega)
      exact ⟨⟨e.1, cR_ext g1.2.1 g1.2.2 e.2.1 e.2.2.1 e.2.2.2.2, sB_ext g1.2.2 e.2.1 e.2.2.1⟩, tEx_tr g2 e.2.1, e.2.2.1.trans g3⟩
    · rw [if_neg hb, if_neg (fun hh => hb (hbit.mp hh))]; exact ⟨g1, g2, g3⟩)
  have hW := (wV_seeds (n := N (4 + 2 * q)) (x := s) hN hM hm ⟨en.1, wq.1⟩).1
  have hsc : t_siteCount (it (tSeedF P q s) 8 0 (tClear q s T)) = 0 := (congrArg (fun q => q.2) h1.2.2).trans c5
  have r := run_sim hN hw hP 1536 0 (it (tSeedF P q s) 8 0 (tClear q s T)) (mSeeds (N (4 + 2 * q)) s M) hW h1.1 (by rw [hsc]; exact (sS_r N _ 0 (N 2).toNat 0).1)
  have rx := tEx_tr h1.2.1 r.2
  exact ⟨r.1, rx.2.2.1.trans c1, rx.2.2.2.1.trans c2, rx.2.2.2.2.trans c3⟩
theorem mOrg_fill {n a : Int} {X : Md} (ha : 0 ≤ a ∧ a < 8) : mOrg n a X = mFilled n (p2 a) X := by
  have hp := p2_0 a
  unfold mOrg mFilled mSeeds
  rw [it_one (c := a) (fun d s d0 d1 dn => by
    unfold mSeedF
    exact if_neg (fun hh => dn ((tb_p2i ha.1 d0).mp ((tb_b1 (by omega) d0).mp hh)))) 8 0 (mClr X) (by omega) (by omega), if_pos (by omega)]
  unfold mSeedF
  rw [if_pos ((tb_b1 (by omega) ha.1).mpr ((tb_p2i ha.1 ha.1).mpr rfl))]

/-! the reference's table: the steps at one entry, and all (pure) -/
theorem vV_n {N : Int → Int} {X : Md} (h : vV N X) : m_now X = N := h.2.2.1
theorem vV_TCG {N : Int → Int} {X : Md} {t e c ex f : Int} (hN : nOk N) (hw : nWf N) (h : vV N X) (ht : 0 ≤ t ∧ t < m_entries X) (he : 0 ≤ e ∧ e < N 2) (hc : 0 ≤ c ∧ c < 8) (hex : 0 ≤ ex ∧ ex < 24) (hf : 0 ≤ f ∧ f < 8) : vV N (mTCG t e c ex f X) ∧ mEx X (mTCG t e c ex f X) ∧ mCa (mTCG t e c ex f X) = mCa X := by
  have h2 := hN.2.2.1
  have hw4 := hw.2.2.2 e he.1 he.2
  have hm := nEdge_q N e 1 hN (by omega) (by omega)
  have hi := h.2.2.2.1.1 t ht.1 ht.2
  have hp := h.2.2.2.1.2 ((8 * ex + c) * 8 + f) (by omega) (by omega)
  unfold mTCG
  rw [h.2.2.1]
  split
  · exact vV_all hN h hi.2.2.2.2.1 (by omega) (by omega) (by omega) hw4.2.2.1
  · exact ⟨h, mEx_rf X, rfl⟩
theorem vV_TCF {N : Int → Int} {X : Md} {t e q c F : Int} (hN : nOk N) (hw : nWf N) (h : vV N X) (ht : 0 ≤ t ∧ t < m_entries X) (he : 0 ≤ e ∧ e < N 2) (hq : 0 ≤ q ∧ q < N 0) (hc : 0 ≤ c ∧ c < 8) (hca : m_callers X < 16384) (hF : m_fact X t = F) : vV N (mTCF t e q (N (4 + 2 * q + 1)) c X) ∧ mEx X (mTCF t e q (N (4 + 2 * q + 1)) c X) ∧ m_callers (mTCF t e q (N (4 + 2 * q + 1)) c X) ≤ m_callers X + 1 ∧ ∀ key : Int, 0 ≤ key → key < 40 → mLs (mTCF t e q (N (4 + 2 * q + 1)) c X) key = mLs X key ++ (if key = 8 * q + c ∧ bA (N (62 + 27 * e + 3 + 8 * 1 + F) / p2 c) 1 = 1 then [32 * t + e] else []) := by
  have h0 := hN.1
  have h1 := hN.2.1
  have h2 := hN.2.2.1
  have hwq := hw.2.1 q hq.1 hq.2
  have en := nEnd_q N (4 + 2 * q) hN (by omega)
  have ex := nEnd_q N (4 + 2 * q + 1) hN (by omega)
  unfold mTCF
  rw [h.2.2.1, hF]
  by_cases hb : bA (N (62 + 27 * e + 3 + 8 * 1 + F) / p2 c) 1 = 1
  · rw [if_pos hb]
    have a1 := vV_comes (a := c) (n := N (4 + 2 * q)) (b := c) (y := t) (z := -1) hN h hc (by omega) hc (by omega) (by omega) (fun _ => rfl)
    have a1e := a1.2.1
    have a2 := vV_notes (q := q) (c := c) (t := t) (e := e) a1.1 (by omega) hc (by omega) he (by omega) (by rw [mCa_n (mComes_Ca _ _ _ _ _ _)]; exact hca)
    have a2e := a2.2.1.1
    have a3 := it_inv (f := mTCG t e c (N (4 + 2 * q + 1))) (fun _ Y => vV N Y ∧ mEx (mNotes q c t e (mComes c (N (4 + 2 * q)) c t (-1) X)) Y ∧ mCa Y = mCa (mNotes q c t e (mComes c (N (4 + 2 * q)) c t (-1) X))) (b := 8) 8 0 (mNotes q c t e (mComes c (N (4 + 2 * q)) c t (-1) X)) (by omega) ⟨a2.1, mEx_rf _, rfl⟩ (fun j Y j0 j1 hY => by
      have g1 := hY.2.1.1
      have g := vV_TCG (t := t) (e := e) (c := c) (ex := N (4 + 2 * q + 1)) (f := j) hN hw hY.1 (by omega) he hc (by omega) (by omega)
      exact ⟨g.1, mEx_tr hY.2.1 g.2.1, g.2.2.trans hY.2.2⟩)
    refine ⟨a3.1, mEx_tr (mEx_tr a1.2 a2.2.1) a3.2.1, ?_, fun key g0 g1 => ?_⟩
    · rw [mCa_n a3.2.2, a2.2.2.1, mCa_n (mComes_Ca _ _ _ _ _ _)]; exact Int.le_refl _
    · rw [mLs_Ca a3.2.2, a2.2.2.2 key g0 g1, mLs_Ca (mComes_Ca _ _ _ _ _ _)]
      by_cases hk : key = 8 * q + c
      · rw [if_pos hk, if_pos ⟨hk, hb⟩]
      · rw [if_neg hk, if_neg (fun hh => hk hh.1)]
  · rw [if_neg hb]
    refine ⟨h, mEx_rf X, by omega, fun key _ _ => ?_⟩
    rw [if_neg (fun hh => hb hh.2), List.append_nil]
theorem vV_takesCall {N : Int → Int} {X : Md} {t e : Int} (hN : nOk N) (hw : nWf N) (h : vV N X) (ht : 0 ≤ t ∧ t < m_entries X) (he : 0 ≤ e ∧ e < N 2) (hq : N (62 + 27 * e + 2) ≠ -1) (hca : m_callers X + 8 ≤ 16384) : vV N (mTakesCall t e X) ∧ mEx X (mTakesCall t e X) ∧ m_callers (mTakesCall t e X) ≤ m_callers X + 8 ∧ ∀ key : Int, 0 ≤ key → key < 40 → mLs (mTakesCall t e X) key = mLs X key ++ (if (8 * N (62 + 27 * e + 2) ≤ key ∧ key < 8 * N (62 + 27 * e + 2) + 8) ∧ bA (N (62 + 27 * e + 3 + 8 * 1 + m_fact X t) / p2 (key - 8 * N (62 + 27 * e + 2))) 1 = 1 then [32 * t + e] else []) := by
  have h2 := hN.2.2.1
  have hw4 := hw.2.2.2 e he.1 he.2
  have hq2 := nEdge_q N e 2 hN (by omega) (by omega)
  unfold mTakesCall
  rw [h.2.2.1]
  have := it_inv (f := mTCF t e (N (62 + 27 * e + 2)) (N (4 + 2 * N (62 + 27 * e + 2) + 1))) (fun c Y => vV N Y ∧ mEx X Y ∧ m_callers Y ≤ m_callers X + c ∧ ∀ key : Int, 0 ≤ key → key < 40 → mLs Y key = mLs X key ++ (if (8 * N (62 + 27 * e + 2) ≤ key ∧ key < 8 * N (62 + 27 * e + 2) + c) ∧ bA (N (62 + 27 * e + 3 + 8 * 1 + m_fact X t) / p2 (key - 8 * N (62 + 27 * e + 2))) 1 = 1 then [32 * t + e] else [])) (b := 8) 8 0 X (by omega) ⟨h, mEx_rf X, by omega, fun key _ _ => by rw [if_neg (fun hh => by have := hh.1; omega), List.append_nil]⟩ (fun c Y c0 c1 hY => by
    obtain ⟨y1, y2, y3, y4⟩ := hY
    have ye := y2.1
    have g := vV_TCF (t := t) (e := e) (q := N (62 + 27 * e + 2)) (c := c) (F := m_fact X t) hN hw y1 (by omega) he (by omega) (by omega) (by omega) (y2.2.1 t ht.1 ht.2).2.2.1
    refine ⟨g.1, mEx_tr y2 g.2.1, by have := g.2.2.1; omega, fun key g0 g1 => ?_⟩
    rw [g.2.2.2 key g0 g1, y4 key g0 g1, List.append_assoc]
    congr 1
    by_cases hk : key = 8 * N (62 + 27 * e + 2) + c
    · have hk2 : key - 8 * N (62 + 27 * e + 2) = c := by omega
      rw [hk2, if_neg (fun hh => by have := hh.1; omega), List.nil_append]
      by_cases hb : bA (N (62 + 27 * e + 3 + 8 * 1 + m_fact X t) / p2 c) 1 = 1
      · rw [if_pos ⟨hk, hb⟩, if_pos ⟨by omega, hb⟩]
      · rw [if_neg (fun hh => hb hh.2), if_neg (fun hh => hb hh.2)]
    · rw [if_neg (show ¬ (key = 8 * N (62 + 27 * e + 2) + c ∧ _) from fun hh => hk hh.1), List.append_nil]
      by_cases hb : (8 * N (62 + 27 * e + 2) ≤ key ∧ key < 8 * N (62 + 27 * e + 2) + c) ∧ bA (N (62 + 27 * e + 3 + 8 * 1 + m_fact X t) / p2 (key - 8 * N (62 + 27 * e + 2))) 1 = 1
      · rw [if_pos hb, if_pos ⟨by have := hb.1; omega, hb.2⟩]
      · rw [if_neg hb, if_neg (fun hh => hb ⟨by have := hh.1; omega, hh.2⟩)])
  exact this
def mXSv (t v : Int) (Y : Md) : Md := mAll (m_startFact Y (v / 32)) (m_now Y (62 + 27 * (v % 32) + 1)) (m_now Y (62 + 27 * (v % 32) + 3 + 8 * 2 + m_fact Y t)) (v / 32) t Y
theorem vV_XSv {N : Int → Int} {X : Md} {t v : Int} (hN : nOk N) (hw : nWf N) (h : vV N X) (ht : 0 ≤ t ∧ t < m_entries X) (hv : 0 ≤ v ∧ v / 32 < m_entries X ∧ v % 32 < N 2) : vV N (mXSv t v X) ∧ mEx X (mXSv t v X) ∧ mCa (mXSv t v X) = mCa X := by
  have h2 := hN.2.2.1
  have hw4 := hw.2.2.2 (v % 32) (by omega) (by omega)
  have hm := nEdge_q N (v % 32) 1 hN (by omega) (by omega)
  have hi := h.2.2.2.1.1 (v / 32) (by omega) (by omega)
  unfold mXSv
  rw [h.2.2.1]
  exact vV_all hN h hi.2.2.2.2.1 (by omega) (by omega) (by omega) hw4.2.2.1
theorem mXF_fold (t : Int) (n : Nat) : ∀ (k : Int) (X : Md), mXF t n k X = List.foldl (fun Y v => mXSv t v Y) X (mCh (m_caller X) (m_following X) n k) := by
  induction n with
  | zero => intro k X; rfl
  | succ n ih =>
    intro k X
    show (if k = -1 then X else mXF t n (m_following X k) (mXS t k X)) = List.foldl _ X (if k = -1 then [] else m_caller X k :: mCh (m_caller X) (m_following X) n (m_following X k))
    by_cases hk : k = -1
    · rw [if_pos hk, if_pos hk]; rfl
    · rw [if_neg hk, if_neg hk, ih]
      have e := mAll_k (m_startFact X (m_caller X k / 32)) (m_now X (62 + 27 * (m_caller X k % 32) + 1)) (m_now X (62 + 27 * (m_caller X k % 32) + 3 + 8 * 2 + m_fact X t)) (m_caller X k / 32) t X
      have e1 : m_caller (mXS t k X) = m_caller X := e.2.1
      have e2 : m_following (mXS t k X) = m_following X := e.2.2.1
      rw [e1, e2]; rfl
theorem vV_XF {N : Int → Int} {t : Int} (hN : nOk N) (hw : nWf N) (n : Nat) : ∀ (k : Int) (X : Md), vV N X → (0 ≤ t ∧ t < m_entries X) → (k = -1 ∨ (0 ≤ k ∧ k < m_callers X)) → vV N (mXF t n k X) ∧ mEx X (mXF t n k X) ∧ mCa (mXF t n k X) = mCa X := by
  induction n with
  | zero => intro k X h _ _; exact ⟨h, mEx_rf X, rfl⟩
  | succ n ih =>
    intro k X h ht hk
    show vV N (if k = -1 then X else mXF t n (m_following X k) (mXS t k X)) ∧ mEx X (if k = -1 then X else mXF t n (m_following X k) (mXS t k X)) ∧ mCa (if k = -1 then X else mXF t n (m_following X k) (mXS t k X)) = mCa X
    by_cases h1 : k = -1
    · rw [if_pos h1]; exact ⟨h, mEx_rf X, rfl⟩
    · rw [if_neg h1]
      obtain ⟨own, hc⟩ := h.2.2.2.2
      have c := hc.1 k (by omega) (by omega)
      have g := vV_XSv (t := t) (v := m_caller X k) hN hw h ht c.2.1
      have ge : m_entries X ≤ m_entries (mXS t k X) := g.2.1.1
      have gc : m_callers (mXS t k X) = m_callers X := mCa_n g.2.2
      have hf : m_following X k = -1 ∨ (0 ≤ m_following X k ∧ m_following X k < m_callers (mXS t k X)) := by
        rw [gc]
        rcases c.2.2 with ⟨h1, _⟩ | ⟨h1, _, _⟩
        · exact Or.inl h1
        · exact Or.inr (by omega)
      have r := ih (m_following X k) (mXS t k X) g.1 (by omega) hf
      exact ⟨r.1, mEx_tr g.2.1 r.2.1, r.2.2.trans g.2.2⟩
theorem vV_ord {N : Int → Int} {X : Md} (h : vV N X) : mOrd X := by
  obtain ⟨own, hc⟩ := h.2.2.2.2
  refine ⟨fun k k0 k1 => ?_, fun q q0 q1 => ?_, fun q q0 q1 => ?_⟩
  · rcases (hc.1 k k0 k1).2.2 with ⟨h1, _⟩ | ⟨h1, _, _⟩
    · exact Or.inl h1
    · exact Or.inr (by omega)
  · rcases (hc.2 q q0 q1).1 with ⟨h1, _⟩ | ⟨h1, _, _⟩
    · exact Or.inl h1
    · exact Or.inr (by omega)
  · rcases (hc.2 q q0 q1).2 with ⟨h1, _⟩ | ⟨h1, _, _⟩
    · exact Or.inl h1
    · exact Or.inr (by omega)
theorem vV_EP {N : Int → Int} {X : Md} {t e : Int} (hN : nOk N) (hw : nWf N) (h : vV N X) (ht : 0 ≤ t ∧ t < m_entries X) (he : 0 ≤ e ∧ e < N 2) : vV N (mEP t e X) ∧ mEx X (mEP t e X) ∧ mCa (mEP t e X) = mCa X := by
  have h2 := hN.2.2.1
  have hw4 := hw.2.2.2 e he.1 he.2
  have hm := nEdge_q N e 1 hN (by omega) (by omega)
  have hi := h.2.2.2.1.1 t ht.1 ht.2
  unfold mEP
  rw [h.2.2.1]
  exact vV_all hN h hi.2.2.2.2.1 (by omega) (by omega) (by omega) hw4.2.2.1
theorem vV_EF {N : Int → Int} {X : Md} {t n e : Int} (hN : nOk N) (hw : nWf N) (h : vV N X) (ht : 0 ≤ t ∧ t < m_entries X) (he : 0 ≤ e ∧ e < N 2) (hca : m_callers X + 8 * (if N (62 + 27 * e + 0) = n ∧ N (62 + 27 * e + 2) ≠ -1 then 1 else 0) ≤ 16384) : vV N (mEF t n e X) ∧ mEx X (mEF t n e X) ∧ m_callers (mEF t n e X) ≤ m_callers X + 8 * (if N (62 + 27 * e + 0) = n ∧ N (62 + 27 * e + 2) ≠ -1 then 1 else 0) := by
  unfold mEF
  rw [h.2.2.1]
  by_cases h1 : N (62 + 27 * e + 0) = n
  · rw [if_pos h1]
    by_cases h2 : N (62 + 27 * e + 2) = -1
    · have ec : mEC t e X = X := by unfold mEC; rw [h.2.2.1]; exact if_pos h2
      rw [ec, if_neg (fun hh => hh.2 h2)]
      have g := vV_EP hN hw h ht he
      exact ⟨g.1, g.2.1, by rw [mCa_n g.2.2]; omega⟩
    · have ec : mEC t e X = mTakesCall t e X := by unfold mEC; rw [h.2.2.1]; exact if_neg h2
      rw [if_pos ⟨h1, h2⟩] at hca ⊢
      rw [ec]
      have c := vV_takesCall hN hw h ht he h2 (by omega)
      have ce := c.2.1.1
      have g := vV_EP (X := mTakesCall t e X) (t := t) (e := e) hN hw c.1 (by omega) he
      exact ⟨g.1, mEx_tr c.2.1 g.2.1, by rw [mCa_n g.2.2]; have := c.2.2.1; omega⟩
  · rw [if_neg h1, if_neg (fun hh => h1 hh.1)]
    exact ⟨h, mEx_rf X, by omega⟩
theorem vV_TE {N : Int → Int} {X : Md} {t : Int} (hN : nOk N) (hw : nWf N) (h : vV N X) (ht : 0 ≤ t ∧ t < m_entries X) (hca : m_callers X + 8 * dgE N (m_node X t) (N 2).toNat 0 ≤ 16384) : vV N (mTE t X) ∧ mEx X (mTE t X) ∧ m_callers (mTE t X) ≤ m_callers X + 8 * dgE N (m_node X t) (N 2).toNat 0 := by
  have h0 := hN.1
  have h1 := hN.2.1
  have h2 := hN.2.2.1
  have hi := h.2.2.2.1.1 t ht.1 ht.2
  have hpr := hw.2.2.1 (m_node X t) (by omega) (by omega)
  have hpr2 := nProc_q N (m_node X t) hN (by omega)
  have hd := dgE_0 N (m_node X t) (N 2).toNat 0
  unfold mTE
  rw [h.2.2.1]
  split
  · have ho := (vV_ord h).2.1 (8 * N (14 + 2 * m_node X t) + m_startFact X t) (by omega) (by omega)
    have g := vV_XF hN hw 16384 (m_firstCaller X (8 * N (14 + 2 * m_node X t) + m_startFact X t)) X h ht ho
    exact ⟨g.1, g.2.1, by rw [mCa_n g.2.2]; omega⟩
  · have := it_inv (f := mEF t (m_node X t)) (fun e Y => vV N Y ∧ mEx X Y ∧ m_callers Y + 8 * dgE N (m_node X t) (N 2 - e).toNat e ≤ m_callers X + 8 * dgE N (m_node X t) (N 2).toNat 0) (b := N 2) (N 2).toNat 0 X (by omega) ⟨h, mEx_rf X, by rw [show N 2 - 0 = N 2 by omega]; omega⟩ (fun e Y e0 e1 hY => by
      obtain ⟨y1, y2, y3⟩ := hY
      have ye := y2.1
      rw [show (N 2 - e).toNat = (N 2 - (e + 1)).toNat + 1 by omega] at y3
      have y4 : m_callers Y + 8 * ((if N (62 + 27 * e + 0) = m_node X t ∧ N (62 + 27 * e + 2) ≠ -1 then 1 else 0) + dgE N (m_node X t) (N 2 - (e + 1)).toNat (e + 1)) ≤ m_callers X + 8 * dgE N (m_node X t) (N 2).toNat 0 := y3
      have hd2 := dgE_0 N (m_node X t) (N 2 - (e + 1)).toNat (e + 1)
      have g := vV_EF (t := t) (n := m_node X t) (e := e) hN hw y1 (by omega) ⟨e0, e1⟩ (by omega)
      exact ⟨g.1, mEx_tr y2 g.2.1, by have := g.2.2; omega⟩)
    refine ⟨this.1, this.2.1, ?_⟩
    have h3 := this.2.2
    rw [show N 2 - N 2 = 0 by omega] at h3
    have h4 : dgE N (m_node X t) (0 : Int).toNat (N 2) = 0 := rfl
    omega
/-! how many callers there can be -/
def cnP (pl : Int → Int) (t n : Int) : Nat → Int
  | 0 => 0
  | j + 1 => cnP pl t n j + (if 1 ≤ pl (64 * n + (j : Int)) ∧ pl (64 * n + (j : Int)) ≤ t then 1 else 0)
theorem cnP_r (pl : Int → Int) (t n : Int) (j : Nat) : 0 ≤ cnP pl t n j ∧ cnP pl t n j ≤ j := by
  induction j with
  | zero => exact ⟨Int.le_refl _, Int.le_refl _⟩
  | succ j ih => unfold cnP; split <;> omega
theorem cnP_same {pl pl' : Int → Int} {t n : Int} (h : ∀ k : Int, 0 ≤ k → k < 1536 → ((1 ≤ pl' k ∧ pl' k ≤ t) ↔ (1 ≤ pl k ∧ pl k ≤ t))) (hn : 0 ≤ n ∧ n < 24) (j : Nat) (hj : j ≤ 64) : cnP pl' t n j = cnP pl t n j := by
  induction j with
  | zero => rfl
  | succ j ih =>
    unfold cnP
    rw [ih (by omega)]
    have := h (64 * n + (j : Int)) (by omega) (by omega)
    by_cases hc : 1 ≤ pl (64 * n + (j : Int)) ∧ pl (64 * n + (j : Int)) ≤ t
    · rw [if_pos hc, if_pos (this.mpr hc)]
    · rw [if_neg hc, if_neg (fun hh => hc (this.mp hh))]
theorem cnP_step {pl : Int → Int} {t n k0 : Int} (h : ∀ k : Int, 0 ≤ k → k < 1536 → (pl k = t + 1 ↔ k = k0)) (ht : 0 ≤ t) (hn : 0 ≤ n ∧ n < 24) (j : Nat) (hj : j ≤ 64) : cnP pl (t + 1) n j = cnP pl t n j + (if 64 * n ≤ k0 ∧ k0 < 64 * n + (j : Int) then 1 else 0) := by
  induction j with
  | zero =>
    rw [if_neg (by omega)]; rfl
  | succ j ih =>
    unfold cnP
    rw [ih (by omega)]
    have := h (64 * n + (j : Int)) (by omega) (by omega)
    (repeat' split) <;> omega
def sS (N pl : Int → Int) (t : Int) : Nat → Int → Int
  | 0, _ => 0
  | k + 1, e => (if N (62 + 27 * e + 2) ≠ -1 then cnP pl t (N (62 + 27 * e + 0)) 64 else 0) + sS N pl t k (e + 1)
theorem sS_r (N pl : Int → Int) (t : Int) (k : Nat) : ∀ e : Int, 0 ≤ sS N pl t k e ∧ sS N pl t k e ≤ 64 * k := by
  induction k with
  | zero => intro e; exact ⟨Int.le_refl _, Int.le_refl _⟩
  | succ k ih =>
    intro e
    have := ih (e + 1)
    have hr := cnP_r pl t (N (62 + 27 * e + 0)) 64
    show 0 ≤ (if N (62 + 27 * e + 2) ≠ -1 then cnP pl t (N (62 + 27 * e + 0)) 64 else 0) + sS N pl t k (e + 1) ∧ (if N (62 + 27 * e + 2) ≠ -1 then cnP pl t (N (62 + 27 * e + 0)) 64 else 0) + sS N pl t k (e + 1) ≤ 64 * (k + 1 : Nat)
    split <;> omega
theorem sS_same {N pl pl' : Int → Int} {t : Int} (hN : nOk N) (h : ∀ k : Int, 0 ≤ k → k < 1536 → ((1 ≤ pl' k ∧ pl' k ≤ t) ↔ (1 ≤ pl k ∧ pl k ≤ t))) (k : Nat) : ∀ e : Int, 0 ≤ e → e + k ≤ 32 → sS N pl' t k e = sS N pl t k e := by
  induction k with
  | zero => intro e _ _; rfl
  | succ k ih =>
    intro e e0 e1
    have hf := nEdge_q N e 0 hN (by omega) (by omega)
    show (if N (62 + 27 * e + 2) ≠ -1 then cnP pl' t (N (62 + 27 * e + 0)) 64 else 0) + sS N pl' t k (e + 1) = (if N (62 + 27 * e + 2) ≠ -1 then cnP pl t (N (62 + 27 * e + 0)) 64 else 0) + sS N pl t k (e + 1)
    rw [ih (e + 1) (by omega) (by omega), cnP_same h (by omega) 64 (Nat.le_refl _)]
theorem sS_step {N pl : Int → Int} {t k0 n0 : Int} (hN : nOk N) (h : ∀ k : Int, 0 ≤ k → k < 1536 → (pl k = t + 1 ↔ k = k0)) (ht : 0 ≤ t) (hk : 64 * n0 ≤ k0 ∧ k0 < 64 * n0 + 64) (k : Nat) : ∀ e : Int, 0 ≤ e → e + k ≤ 32 → sS N pl (t + 1) k e = sS N pl t k e + dgE N n0 k e := by
  induction k with
  | zero => intro e _ _; rfl
  | succ k ih =>
    intro e e0 e1
    have hf := nEdge_q N e 0 hN (by omega) (by omega)
    show (if N (62 + 27 * e + 2) ≠ -1 then cnP pl (t + 1) (N (62 + 27 * e + 0)) 64 else 0) + sS N pl (t + 1) k (e + 1) = ((if N (62 + 27 * e + 2) ≠ -1 then cnP pl t (N (62 + 27 * e + 0)) 64 else 0) + sS N pl t k (e + 1)) + ((if N (62 + 27 * e + 0) = n0 ∧ N (62 + 27 * e + 2) ≠ -1 then 1 else 0) + dgE N n0 k (e + 1))
    rw [ih (e + 1) (by omega) (by omega), cnP_step h ht (by omega) 64 (Nat.le_refl _)]
    by_cases hc : N (62 + 27 * e + 2) = -1
    · rw [if_neg (fun hh => hh hc), if_neg (fun hh => hh hc), if_neg (fun hh => hh.2 hc)]; omega
    · rw [if_pos hc, if_pos hc]
      by_cases hn : N (62 + 27 * e + 0) = n0
      · rw [if_pos (show N (62 + 27 * e + 0) = n0 ∧ N (62 + 27 * e + 2) ≠ -1 from ⟨hn, hc⟩), if_pos (by omega)]; omega
      · rw [if_neg (show ¬ (N (62 + 27 * e + 0) = n0 ∧ N (62 + 27 * e + 2) ≠ -1) from fun hh => hn hh.1), if_neg (by omega)]; omega
def wV (N : Int → Int) (t : Int) (X : Md) : Prop := vV N X ∧ (0 ≤ t ∧ t ≤ m_entries X) ∧ m_callers X ≤ 8 * sS N (m_place X) t (N 2).toNat 0
theorem wV_TE {N : Int → Int} {X : Md} {t : Int} (hN : nOk N) (hw : nWf N) (h : wV N t X) (ht : t < m_entries X) : m_callers X + 8 * dgE N (m_node X t) (N 2).toNat 0 ≤ 16384 ∧ sS N (m_place X) t (N 2).toNat 0 + dgE N (m_node X t) (N 2).toNat 0 ≤ 2048 ∧ wV N (t + 1) (mTE t X) ∧ mEx X (mTE t X) := by
  obtain ⟨h1, h2, h3⟩ := h
  have hn2 := hN.2.2.1
  have hE := h1.2.1.2.2.2.2.2.2.2.2.1
  have hi := h1.2.2.2.1.1 t h2.1 ht
  have hn1 := hN.2.1
  have hstep := sS_step (n0 := m_node X t) (k0 := mKey X t) (pl := m_place X) (t := t) hN (fun k k0 k1 => ⟨fun hh => by
      rcases h1.2.2.2.1.2 k k0 k1 with h4 | ⟨h4, h5⟩
      · omega
      · rw [hh, show t + 1 - 1 = t by omega] at h5
        exact h5.symm, fun hh => by rw [hh]; exact hi.1⟩) h2.1 (by show 64 * m_node X t ≤ (8 * m_node X t + m_startFact X t) * 8 + m_fact X t ∧ (8 * m_node X t + m_startFact X t) * 8 + m_fact X t < 64 * m_node X t + 64; omega) (N 2).toNat 0 (by omega) (by omega)
  have hb := sS_r N (m_place X) (t + 1) (N 2).toNat 0
  have hca : m_callers X + 8 * dgE N (m_node X t) (N 2).toNat 0 ≤ 16384 := by omega
  have g := vV_TE hN hw h1 ⟨h2.1, ht⟩ hca
  have ge := g.2.1.1
  refine ⟨hca, by omega, ⟨g.1, by omega, ?_⟩, g.2.1⟩
  have hs := sS_same (pl := m_place X) (pl' := m_place (mTE t X)) (t := t + 1) hN (fun k k0 k1 => by
    have e := g.2.1.2.2.1 k k0 k1
    by_cases hz : m_place X k = 0
    · rcases e.2 hz with h9 | h9
      · omega
      · omega
    · rw [e.1 hz]) (N 2).toNat 0 (by omega) (by omega)
  rw [hs, hstep]
  have := g.2.2
  omega
def mFl : Nat → Int → Md → Md
  | 0, _, X => X
  | k + 1, t, X => if t < m_entries X then mFl k (t + 1) (mTE t X) else X
theorem wV_Fl {N : Int → Int} (hN : nOk N) (hw : nWf N) (k : Nat) : ∀ (t : Int) (X : Md), wV N t X → vV N (mFl k t X) ∧ mEx X (mFl k t X) := by
  induction k with
  | zero => intro t X h; exact ⟨h.1, mEx_rf X⟩
  | succ k ih =>
    intro t X h
    unfold mFl
    split
    · rename_i ht
      have g := wV_TE hN hw h ht
      have r := ih (t + 1) (mTE t X) g.2.2.1
      exact ⟨r.1, mEx_tr g.2.2.2 r.2⟩
    · exact ⟨h.1, mEx_rf X⟩

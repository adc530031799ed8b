/-! SIMULATION: THE TABLE, taking an ENTRY -/
def sL (s : Int → Int) : Nat → Int → List Int
  | 0, _ => []
  | m + 1, j => s j :: sL s m (j + 1)
theorem sL_mem {s : Int → Int} {v : Int} (m : Nat) : ∀ j : Int, v ∈ sL s m j → ∃ i : Int, j ≤ i ∧ i < j + m ∧ v = s i := by
  induction m with
  | zero => intro j h; cases h
  | succ m ih =>
    intro j h
    rcases List.mem_cons.mp h with h | h
    · exact ⟨j, by omega, by omega, h⟩
    · obtain ⟨i, i0, i1, i2⟩ := ih (j + 1) h
      exact ⟨i, by omega, by omega, i2⟩
theorem sL_snoc {s : Int → Int} {n v : Int} (m : Nat) : ∀ j : Int, j + m = n → sL (up s n v) (m + 1) j = sL s m j ++ [v] := by
  induction m with
  | zero =>
    intro j h
    have : j = n := by omega
    subst this
    show up s j v j :: [] = [v]
    rw [up_s]
  | succ m ih =>
    intro j h
    show up s n v j :: sL (up s n v) (m + 1) (j + 1) = s j :: sL s m (j + 1) ++ [v]
    rw [ih (j + 1) (by omega), up_n _ _ (by omega)]; rfl
theorem fil_c {f g : Int → Bool} (L : List Int) (h : ∀ v ∈ L, f v = g v) : L.filter f = L.filter g := by
  induction L with
  | nil => rfl
  | cons v L ih =>
    have h1 := h v List.mem_cons_self
    have h2 := ih (fun w hw => h w (List.mem_cons_of_mem _ hw))
    rw [List.filter_cons, List.filter_cons, h1, h2]
def sCd (P : Pg) (K : Int → Int) (q c v : Int) : Bool := decide (p_callee P (v % 32) = q) && tb (pReach P (v % 32) 1 (K (v / 32) % 8)) c
def sAll (T : Tb) : List Int := sL (t_sites T) (t_siteCount T).toNat 0
def cR (P : Pg) (T : Tb) (X : Md) : Prop := ∀ q c : Int, 0 ≤ q → q < 5 → 0 ≤ c → c < 8 → mLs X (8 * q + c) = (sAll T).filter (sCd P (t_keys T) q c)
def sB (N : Int → Int) (T : Tb) : Prop := 0 ≤ t_siteCount T ∧ ∀ i : Int, 0 ≤ i → i < t_siteCount T → 0 ≤ t_sites T i ∧ t_sites T i / 32 < t_size T ∧ t_sites T i % 32 < N 2
theorem sB_mem {N : Int → Int} {T : Tb} {v : Int} (h : sB N T) (hv : v ∈ sAll T) : 0 ≤ v ∧ v / 32 < t_size T ∧ v % 32 < N 2 := by
  obtain ⟨i, i0, i1, i2⟩ := sL_mem _ 0 hv
  rw [i2]
  exact h.2 i i0 (by have := h.1; omega)
theorem sB_ext {N : Int → Int} {T T' : Tb} (h : sB N T) (hx : tEx T T') (hs : tSi T' = tSi T) : sB N T' := by
  have e1 : t_sites T' = t_sites T := congrArg (fun q => q.1) hs
  have e2 : t_siteCount T' = t_siteCount T := congrArg (fun q => q.2) hs
  have e3 := hx.1
  refine ⟨by rw [e2]; exact h.1, fun i i0 i1 => ?_⟩
  rw [e2] at i1
  have := h.2 i i0 i1
  rw [e1]; omega
theorem cR_ext {N : Int → Int} {P : Pg} {T T' : Tb} {X X' : Md} (h : cR P T X) (hb : sB N T) (hx : tEx T T') (hs : tSi T' = tSi T) (hc : mCa X' = mCa X) : cR P T' X' := by
  intro q c q0 q1 c0 c1
  have e1 : sAll T' = sAll T := by
    unfold sAll
    rw [show t_sites T' = t_sites T from congrArg (fun q => q.1) hs, show t_siteCount T' = t_siteCount T from congrArg (fun q => q.2) hs]
  rw [mLs_Ca hc, h q c q0 q1 c0 c1, e1]
  refine fil_c _ (fun v hv => ?_)
  have := sB_mem hb hv
  unfold sCd
  rw [(hx.2.1 (v / 32) (by omega) this.2.1).1]
/-! only the table's own fields count -/
theorem fR_notes {N : Int → Int} {T : Tb} {X : Md} {q c t e : Int} (h : fR N T X) (hv : vV N (mNotes q c t e X)) : fR N T (mNotes q c t e X) := by
  have k : m_entries (mNotes q c t e X) = m_entries X ∧ m_place (mNotes q c t e X) = m_place X ∧ m_startFact (mNotes q c t e X) = m_startFact X ∧ m_node (mNotes q c t e X) = m_node X ∧ m_fact (mNotes q c t e X) = m_fact X ∧ m_ahead (mNotes q c t e X) = m_ahead X ∧ m_inside (mNotes q c t e X) = m_inside X := by
    unfold mNotes; split <;> exact ⟨rfl, rfl, rfl, rfl, rfl, rfl, rfl⟩
  obtain ⟨k1, k2, k3, k4, k5, k6, k7⟩ := k
  obtain ⟨_, hT, hR, hS⟩ := h
  refine ⟨hv, hT, ⟨by rw [k1]; exact hR.1, fun i i0 i1 => ?_, fun k k0 k1' hk => ?_⟩, fun c b c0 c1 b0 b1 => by rw [k2]; exact hS c b c0 c1 b0 b1⟩
  · rw [k1] at i1
    have := hR.2.1 i i0 i1
    unfold tWl mKey
    rw [k3, k4, k5, k6, k7]; exact this
  · rw [k2] at hk ⊢
    exact hR.2.2 k k0 k1' hk
theorem it_one {σ : Type} {f : Int → σ → σ} {c : Int} (hf : ∀ (d : Int) (s : σ), 0 ≤ d → d < 8 → d ≠ c → f d s = s) (n : Nat) : ∀ (i : Int) (s : σ), 0 ≤ i → i + n ≤ 8 → it f n i s = if i ≤ c ∧ c < i + n then f c s else s := by
  induction n with
  | zero => intro i s _ _; rw [it_0, if_neg (by omega)]
  | succ n ih =>
    intro i s h0 h8
    rw [it_s, ih (i + 1) _ (by omega) (by omega)]
    by_cases hi : i = c
    · rw [hi, if_neg (by omega), if_pos (by omega)]
    · rw [hf i s h0 (by omega) hi]
      by_cases h : i + 1 ≤ c ∧ c < i + 1 + n
      · rw [if_pos h, if_pos (by omega)]
      · rw [if_neg h, if_neg (by omega)]
theorem tb_p2i {c d : Int} (hc : 0 ≤ c) (hd : 0 ≤ d) : tb (p2 c) d = true ↔ d = c := by
  rw [tb_p2]
  constructor
  · intro h; have := of_decide_eq_true h; omega
  · intro h; subst h; simp
theorem mAll_one {c n y z : Int} {X : Md} (hc : 0 ≤ c ∧ c < 8) : mAll c n (p2 c) y z X = mComes c n c y z X := by
  unfold mAll
  have hp := p2_0 c
  rw [it_one (c := c) (fun d s d0 d1 dn => by
    unfold mAllF
    exact if_neg (fun hh => dn ((tb_p2i hc.1 d0).mp ((tb_b1 (by omega) d0).mp hh)))) 8 0 X (by omega) (by omega), if_pos (by omega)]
  unfold mAllF
  exact if_pos ((tb_b1 (by omega) hc.1).mpr ((tb_p2i hc.1 hc.1).mpr rfl))
/-- a FACT comes to an ENTRY -/
theorem entry_sim {N : Int → Int} {P : Pg} {T : Tb} {X : Md} {c n y z : Int} (hN : nOk N) (hP : pR P N) (h : fR N T X) (hc : 0 ≤ c ∧ c < 8) (hn : 0 ≤ n ∧ n < N 1) (hy : -1 ≤ y ∧ y < m_entries X) (hz : -1 ≤ z ∧ z < m_entries X) :
    fR N (tCome P (n * 8 + c) (p2 c) y z T) (mComes c n c y z X) ∧ tEx T (tCome P (n * 8 + c) (p2 c) y z T) ∧ tSi (tCome P (n * 8 + c) (p2 c) y z T) = tSi T ∧ mEx X (mComes c n c y z X) ∧ mCa (mComes c n c y z X) = mCa X := by
  have hp := p2_0 c
  have hp2 := p2_8 (k := c) (by omega)
  have := come_sim (x := p2 c) hN hP h hc hn (by omega) hy hz (fun d d0 d1 hd _ => ((tb_p2i hc.1 d0).mp hd).symm)
  rw [mAll_one hc] at this
  exact this
theorem fR_fact {N : Int → Int} {T : Tb} {X : Md} {t : Int} (h : fR N T X) (ht : 0 ≤ t ∧ t < m_entries X) : tFb T t = m_fact X t ∧ tFa T t = m_startFact X t ∧ tNode T t = m_node X t := by
  have k := (h.2.2.1.2.1 t ht.1 ht.2).1.1
  have v := h.1.2.2.2.1.1 t ht.1 ht.2
  show t_keys T t % 8 = _ ∧ t_keys T t / 8 % 8 = _ ∧ t_keys T t / 64 = _
  rw [k]
  show ((8 * m_node X t + m_startFact X t) * 8 + m_fact X t) % 8 = _ ∧ ((8 * m_node X t + m_startFact X t) * 8 + m_fact X t) / 8 % 8 = _ ∧ ((8 * m_node X t + m_startFact X t) * 8 + m_fact X t) / 64 = _
  omega
/-- a step over an EDGE to its m, from the one at t -/
theorem land_sim {N : Int → Int} {P : Pg} {T : Tb} {X : Md} {t e w f y z : Int} (hN : nOk N) (hw : nWf N) (hP : pR P N) (h : fR N T X) (ht : 0 ≤ t ∧ t < m_entries X) (he : 0 ≤ e ∧ e < N 2) (hw3 : 0 ≤ w ∧ w < 3) (hf : 0 ≤ f ∧ f < 8) (hy : -1 ≤ y ∧ y < m_entries X) (hz : -1 ≤ z ∧ z < m_entries X) :
    fR N (tCome P (tLand P T t e) (pReach P e w f) y z T) (mAll (m_startFact X t) (N (62 + 27 * e + 1)) (N (62 + 27 * e + 3 + 8 * w + f)) y z X) ∧ tEx T (tCome P (tLand P T t e) (pReach P e w f) y z T) ∧ tSi (tCome P (tLand P T t e) (pReach P e w f) y z T) = tSi T ∧ mEx X (mAll (m_startFact X t) (N (62 + 27 * e + 1)) (N (62 + 27 * e + 3 + 8 * w + f)) y z X) ∧ mCa (mAll (m_startFact X t) (N (62 + 27 * e + 1)) (N (62 + 27 * e + 3 + 8 * w + f)) y z X) = mCa X := by
  have n2 := hN.2.2.1
  have v := h.1.2.2.2.1.1 t ht.1 ht.2
  have w4 := hw.2.2.2 e he.1 he.2
  have hm := nEdge_q N e 1 hN (by omega) (by omega)
  have fl := nFlow_q N e w f hN (by omega) hw3 hf
  have p := hP.2.2.2.2.2.2 e he.1 he.2
  have el : tLand P T t e = N (62 + 27 * e + 1) * 8 + m_startFact X t := by
    have := (fR_fact h ht).2.1
    show p_to P e * 8 + tFa T t = _
    rw [this, p.2.1]
  rw [el, p.2.2.2 w f hw3.1 hw3.2 hf.1 hf.2]
  exact come_sim hN hP h v.2.2.2.2.1 ⟨by omega, w4.2.1⟩ (by omega) hy hz (fun d _ _ _ hh => absurd hh w4.2.2.1)
/-- from T0, X0 on, by comings alone -/
def gR (N : Int → Int) (T0 : Tb) (X0 : Md) (T : Tb) (X : Md) : Prop := fR N T X ∧ tEx T0 T ∧ tSi T = tSi T0 ∧ mEx X0 X
theorem leave_sim {N : Int → Int} {P : Pg} {T : Tb} {X : Md} {t e c ex : Int} (hN : nOk N) (hw : nWf N) (hP : pR P N) (h : fR N T X) (ht : 0 ≤ t ∧ t < m_entries X) (he : 0 ≤ e ∧ e < N 2) (hc : 0 ≤ c ∧ c < 8) (hex : 0 ≤ ex ∧ ex < 24) :
    gR N T X (tLeave P t e (ex * 8 + c) T) (it (mTCG t e c ex) 8 0 X) ∧ mCa (it (mTCG t e c ex) 8 0 X) = mCa X := by
  refine it_rel (f := tLeaveF P t e (ex * 8 + c)) (g := mTCG t e c ex) (fun _ T' X' => gR N T X T' X' ∧ mCa X' = mCa X) (b := 8) 8 0 T X (by omega) ⟨⟨h, tEx_rf T, rfl, mEx_rf X⟩, rfl⟩ (fun f T' X' f0 f1 hI => ?_)
  obtain ⟨⟨g1, g2, g3, g4⟩, g5⟩ := hI
  have ge := g4.1
  have hX := g1.1.2.2.1
  have hpl := g1.1.2.2.2.1.2 ((8 * ex + c) * 8 + f) (by omega) (by omega)
  have hs := g1.2.2.2 (ex * 8 + c) f (by omega) (by omega) f0 f1
  rw [show (ex * 8 + c) * 8 + f = (8 * ex + c) * 8 + f by omega] at hs
  unfold tLeaveF mTCG
  rw [show (ex * 8 + c) * 8 + f = (8 * ex + c) * 8 + f by omega]
  by_cases hz : m_place X' ((8 * ex + c) * 8 + f) = 0
  · rw [if_neg (fun hh => hs.mp hh hz), if_neg (by omega)]
    exact ⟨⟨g1, g2, g3, g4⟩, g5⟩
  · have hz2 : 1 ≤ m_place X' ((8 * ex + c) * 8 + f) ∧ m_place X' ((8 * ex + c) * 8 + f) ≤ m_entries X' := by omega
    have hpo := g1.2.2.1.2.2 ((8 * ex + c) * 8 + f) (by omega) (by omega) hz
    rw [if_pos (hs.mpr hz), if_pos (by omega), hX, show t_placeOf T' ((8 * ex + c) * 8 + f) = m_place X' ((8 * ex + c) * 8 + f) - 1 by omega]
    have l := land_sim (T := T') (X := X') (t := t) (e := e) (w := 2) (f := f) (y := t) (z := m_place X' ((8 * ex + c) * 8 + f) - 1) hN hw hP g1 (by omega) he (by omega) ⟨f0, f1⟩ (by omega) (by omega)
    exact ⟨⟨l.1, tEx_tr g2 l.2.1, l.2.2.1.trans g3, mEx_tr g4 l.2.2.2.1⟩, l.2.2.2.2.trans g5⟩
theorem note_sim {N : Int → Int} {T : Tb} {X : Md} {t e : Int} (h : fR N T X) (ht : 0 ≤ t ∧ t < 1536) (he : 0 ≤ e ∧ e < 32) (hc : t_siteCount T < 2048) : fR N (tNote t e T) X ∧ tEx T (tNote t e T) ∧ tSi (tNote t e T) = (up (t_sites T) (t_siteCount T) (t * 32 + e), t_siteCount T + 1) ∧ t_keys (tNote t e T) = t_keys T := by
  have ok := tNote_ok h.2.1 ht he
  have eq : tNote t e T = ts_siteCount (ts_sites T (up (t_sites T) (t_siteCount T) (t * 32 + e))) (t_siteCount T + 1) := if_neg (by omega)
  rw [eq] at ok ⊢
  exact ⟨⟨h.1, ok, h.2.2.1, h.2.2.2⟩, tEx_rf T, rfl, rfl⟩
theorem enter_sim {N : Int → Int} {P : Pg} {T : Tb} {X : Md} {t e : Int} (hN : nOk N) (hw : nWf N) (hP : pR P N) (h : fR N T X) (hcr : cR P T X) (hsb : sB N T) (ht : 0 ≤ t ∧ t < m_entries X) (he : 0 ≤ e ∧ e < N 2) (hq : N (62 + 27 * e + 2) ≠ -1) (hca : m_callers X + 8 ≤ 16384) (hsc : t_siteCount T < 2048) :
    fR N (tEnter P t e T) (mTakesCall t e X) ∧ tEx T (tEnter P t e T) ∧ mEx X (mTakesCall t e X) ∧ t_siteCount (tEnter P t e T) = t_siteCount T + 1 ∧ cR P (tEnter P t e T) (mTakesCall t e X) ∧ sB N (tEnter P t e T) := by
  have n0 := hN.1
  have n2 := hN.2.2.1
  have hE := h.1.2.1.2.2.2.2.2.2.2.2.1
  have w4 := hw.2.2.2 e he.1 he.2
  have hq2 := nEdge_q N e 2 hN (by omega) (by omega)
  have wq := hw.2.1 (N (62 + 27 * e + 2)) (by omega) w4.2.2.2
  have en := nEnd_q N (4 + 2 * N (62 + 27 * e + 2)) hN (by omega)
  have exq := nEnd_q N (4 + 2 * N (62 + 27 * e + 2) + 1) hN (by omega)
  have pe := hP.2.2.2.2.2.2 e he.1 he.2
  have pq := hP.2.2.2.2.1 (N (62 + 27 * e + 2)) (by omega) w4.2.2.2
  have v := h.1.2.2.2.1.1 t ht.1 ht.2
  obtain ⟨b1, b2, b3, b4⟩ := note_sim (t := t) (e := e) h (by omega) (by omega) hsc
  have hins : pReach P e 1 (tFb (tNote t e T) t) = N (62 + 27 * e + 3 + 8 * 1 + m_fact X t) := by
    rw [(fR_fact b1 ht).1]
    exact pe.2.2.2 1 (m_fact X t) (by omega) (by omega) (by omega) (by omega)
  have hfl := nFlow_q N e 1 (m_fact X t) hN (by omega) (by omega) (by omega)
  have key : gR N (tNote t e T) X (tEnter P t e T) (mTakesCall t e X) ∧ m_callers (mTakesCall t e X) ≤ m_callers X + 8 := by
    unfold tEnter mTakesCall
    rw [hins, h.1.2.2.1]
    refine it_rel (f := tEnterF P t e (N (62 + 27 * e + 3 + 8 * 1 + m_fact X t))) (g := mTCF t e (N (62 + 27 * e + 2)) (N (4 + 2 * N (62 + 27 * e + 2) + 1))) (fun c T' X' => gR N (tNote t e T) X T' X' ∧ m_callers X' ≤ m_callers X + c) (b := 8) 8 0 (tNote t e T) X (by omega) ⟨⟨b1, tEx_rf _, rfl, mEx_rf X⟩, by omega⟩ (fun c T' X' c0 c1 hI => ?_)
    obtain ⟨⟨g1, g2, g3, g4⟩, g5⟩ := hI
    have ge := g4.1
    have hX := g1.1.2.2.1
    have hff : m_fact X' t = m_fact X t := (g4.2.1 t ht.1 ht.2).2.2.1
    unfold tEnterF mTCF
    rw [hX, hff, pe.2.2.1, pq.1, pq.2]
    have hbit := tb_b1 (x := N (62 + 27 * e + 3 + 8 * 1 + m_fact X t)) (k := c) hfl.1 c0
    by_cases hb : tb (N (62 + 27 * e + 3 + 8 * 1 + m_fact X t)) c = true
    · rw [if_pos hb, if_pos (hbit.mpr hb)]
      have s1 := entry_sim (c := c) (n := N (4 + 2 * N (62 + 27 * e + 2))) (y := t) (z := -1) hN hP g1 ⟨c0, c1⟩ ⟨en.1, wq.1⟩ (by omega) (by omega)
      have s1e := s1.2.2.2.1.1
      have s2 := vV_notes (q := N (62 + 27 * e + 2)) (c := c) (t := t) (e := e) s1.1.1 (by omega) ⟨c0, c1⟩ (by omega) he (by omega) (by rw [mCa_n s1.2.2.2.2]; omega)
      have s3 := fR_notes s1.1 s2.1
      have s3e := s2.2.1.1
      have s4 := leave_sim (t := t) (e := e) (c := c) (ex := N (4 + 2 * N (62 + 27 * e + 2) + 1)) hN hw hP s3 (by omega) he ⟨c0, c1⟩ (by omega)
      refine ⟨⟨s4.1.1, tEx_tr g2 (tEx_tr s1.2.1 s4.1.2.1), (s4.1.2.2.1.trans s1.2.2.1).trans g3, mEx_tr g4 (mEx_tr (mEx_tr s1.2.2.2.1 s2.2.1) s4.1.2.2.2)⟩, ?_⟩
      rw [mCa_n s4.2, s2.2.2.1, mCa_n s1.2.2.2.2]; omega
    · rw [if_neg hb, if_neg (fun hh => hb (hbit.mp hh))]
      exact ⟨⟨g1, g2, g3, g4⟩, by omega⟩
  obtain ⟨⟨k1, k2, k3, k4⟩, k5⟩ := key
  have ls := (vV_takesCall hN hw h.1 ht he hq hca).2.2.2
  have hext : tEx T (tEnter P t e T) := tEx_tr b2 k2
  have si : tSi (tEnter P t e T) = (up (t_sites T) (t_siteCount T) (t * 32 + e), t_siteCount T + 1) := k3.trans b3
  have e1 : t_sites (tEnter P t e T) = up (t_sites T) (t_siteCount T) (t * 32 + e) := congrArg (fun q => q.1) si
  have e2 : t_siteCount (tEnter P t e T) = t_siteCount T + 1 := congrArg (fun q => q.2) si
  have hsz := h.2.2.1.1
  have hsz2 := hext.1
  refine ⟨k1, hext, k4, e2, fun q c q0 q1 c0 c1 => ?_, ⟨by rw [e2]; have := hsb.1; omega, fun i i0 i1 => ?_⟩⟩
  · have hall : sAll (tEnter P t e T) = sAll T ++ [t * 32 + e] := by
      unfold sAll
      rw [e1, e2, show (t_siteCount T + 1).toNat = (t_siteCount T).toNat + 1 by have := hsb.1; omega]
      exact sL_snoc (t_siteCount T).toNat 0 (by have := hsb.1; omega)
    rw [ls (8 * q + c) (by omega) (by omega), hcr q c q0 q1 c0 c1, hall, List.filter_append]
    congr 1
    · refine fil_c _ (fun v hv => ?_)
      have := sB_mem hsb hv
      unfold sCd
      rw [(hext.2.1 (v / 32) (by omega) this.2.1).1]
    · have hv1 : (t * 32 + e) % 32 = e := by omega
      have hv2 : (t * 32 + e) / 32 = t := by omega
      have hk9 : t_keys (tEnter P t e T) t % 8 = m_fact X t := by
        rw [(hext.2.1 t ht.1 (by omega)).1]
        exact (fR_fact h ht).1
      have hcd : sCd P (t_keys (tEnter P t e T)) q c (t * 32 + e) = (decide (N (62 + 27 * e + 2) = q) && tb (N (62 + 27 * e + 3 + 8 * 1 + m_fact X t)) c) := by
        unfold sCd
        rw [hv1, hv2, hk9, pe.2.2.1, pe.2.2.2 1 (m_fact X t) (by omega) (by omega) (by omega) (by omega)]
      rw [List.filter_cons, hcd, List.filter_nil, show t * 32 + e = 32 * t + e by omega]
      by_cases hqq : N (62 + 27 * e + 2) = q
      · have hbit := tb_b1 (x := N (62 + 27 * e + 3 + 8 * 1 + m_fact X t)) (k := c) hfl.1 c0
        rw [hqq, show 8 * q + c - 8 * q = c by omega]
        by_cases hb : tb (N (62 + 27 * e + 3 + 8 * 1 + m_fact X t)) c = true
        · rw [if_pos ⟨by omega, hbit.mpr hb⟩, hb, if_pos (by simp)]
        · rw [if_neg (fun hh => hb (hbit.mp hh.2)), if_neg (by rw [Bool.and_eq_true]; exact fun hh => hb hh.2)]
      · rw [if_neg (fun hh => hqq (by have := hh.1; omega)), if_neg (by simp [hqq])]
  · rw [e2] at i1
    rw [e1, up_a]
    by_cases hi : i = t_siteCount T
    · rw [if_pos hi]; omega
    · rw [if_neg hi]
      have := hsb.2 i i0 (by omega)
      omega

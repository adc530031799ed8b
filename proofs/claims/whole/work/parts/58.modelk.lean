/-! the reference's table: what its steps keep (pure) -/
def mN (X : Md) : (Int → Int) × (Int → Int) × (Int → Int) × Int × Int × (Int → Int) × (Int → Int) × Int × (Int → Int) × Int × (Int → Int) × Int × (Int → Int) × Int × Int := (m_refused X, m_now X, m_kept X, m_states X, m_known X, m_loose X, m_stack X, m_high X, m_pairs X, m_told X, m_text X, m_typed X, m_orders X, m_written X, m_look X)
def mCa (X : Md) : (Int → Int) × (Int → Int) × (Int → Int) × (Int → Int) × Int := (m_caller X, m_following X, m_firstCaller X, m_lastCaller X, m_callers X)
abbrev mKey (X : Md) (i : Int) : Int := (8 * m_node X i + m_startFact X i) * 8 + m_fact X i
def mLs (X : Md) (key : Int) : List Int := mCh (m_caller X) (m_following X) 16384 (m_firstCaller X key)
def vV (N : Int → Int) (X : Md) : Prop := mC X ∧ mOk X ∧ m_now X = N ∧ vTr N (m_entries X) (m_place X) (m_startFact X) (m_node X) (m_fact X) (m_ahead X) (m_inside X) ∧ ∃ own : Int → Int, vCr (m_entries X) (N 2) (m_callers X) own (m_caller X) (m_following X) (m_firstCaller X) (m_lastCaller X)
def mEx (X Y : Md) : Prop := m_entries X ≤ m_entries Y ∧ (∀ i : Int, 0 ≤ i → i < m_entries X → m_node Y i = m_node X i ∧ m_startFact Y i = m_startFact X i ∧ m_fact Y i = m_fact X i ∧ m_ahead Y i = m_ahead X i ∧ m_inside Y i = m_inside X i) ∧ (∀ k : Int, 0 ≤ k → k < 1536 → (m_place X k ≠ 0 → m_place Y k = m_place X k) ∧ (m_place X k = 0 → m_place Y k = 0 ∨ m_entries X < m_place Y k)) ∧ mN Y = mN X
theorem mEx_rf (X : Md) : mEx X X := ⟨Int.le_refl _, fun _ _ _ => ⟨rfl, rfl, rfl, rfl, rfl⟩, fun _ _ _ => ⟨fun _ => rfl, fun h => Or.inl h⟩, rfl⟩
theorem mEx_tr {X Y Z : Md} (h1 : mEx X Y) (h2 : mEx Y Z) : mEx X Z := by
  have a1 := h1.1
  have a2 := h2.1
  refine ⟨by omega, fun i i0 i1 => ?_, fun k k0 k1 => ⟨fun hp => ?_, fun hp => ?_⟩, h2.2.2.2.trans h1.2.2.2⟩
  · have e1 := h1.2.1 i i0 i1
    have e2 := h2.2.1 i i0 (by omega)
    exact ⟨e2.1.trans e1.1, e2.2.1.trans e1.2.1, e2.2.2.1.trans e1.2.2.1, e2.2.2.2.1.trans e1.2.2.2.1, e2.2.2.2.2.trans e1.2.2.2.2⟩
  · have e1 := (h1.2.2.1 k k0 k1).1 hp
    exact ((h2.2.2.1 k k0 k1).1 (by rw [e1]; exact hp)).trans e1
  · have e1 := (h1.2.2.1 k k0 k1).2 hp
    have e2 := h2.2.2.1 k k0 k1
    by_cases hy : m_place Y k = 0
    · rcases e2.2 hy with h | h
      · exact Or.inl h
      · exact Or.inr (by omega)
    · have := e2.1 hy
      rcases e1 with h | h
      · exact absurd h hy
      · exact Or.inr (by omega)
theorem mEx_now {X Y : Md} (h : mEx X Y) : m_now Y = m_now X := congrArg (fun q => q.2.1) h.2.2.2
theorem mComes_Ca (a n b y z : Int) (M : Md) : mCa (mComes a n b y z M) = mCa M := by
  unfold mComes; split <;> rfl
theorem mComes_N (a n b y z : Int) (M : Md) : mN (mComes a n b y z M) = mN M := by
  unfold mComes; split <;> rfl
theorem mLs_Ca {X Y : Md} (h : mCa Y = mCa X) (key : Int) : mLs Y key = mLs X key := by
  have h1 : m_caller Y = m_caller X := congrArg (fun q => q.1) h
  have h2 : m_following Y = m_following X := congrArg (fun q => q.2.1) h
  have h3 : m_firstCaller Y = m_firstCaller X := congrArg (fun q => q.2.2.1) h
  unfold mLs; rw [h1, h2, h3]
theorem mCa_n {X Y : Md} (h : mCa Y = mCa X) : m_callers Y = m_callers X := congrArg (fun q => q.2.2.2.2) h
theorem vV_comes {N : Int → Int} {X : Md} {a n b y z : Int} (hN : nOk N) (h : vV N X) (ha : 0 ≤ a ∧ a < 8) (hn : 0 ≤ n ∧ n < N 1) (hb : 0 ≤ b ∧ b < 8) (hy : -1 ≤ y ∧ y < m_entries X) (hz : -1 ≤ z ∧ z < m_entries X) (hs : N (14 + 2 * n + 1) = 0 → a = b) : vV N (mComes a n b y z X) ∧ mEx X (mComes a n b y z X) := by
  obtain ⟨hC, ho, h3, h4, own, h5⟩ := h
  have h1 := hN.2.1
  have hE := ho.2.2.2.2.2.2.2.2.1
  have c1 := mComes_C (a := a) (n := n) (b := b) (y := y) (z := z) hC ho ha (by omega) hb
  have c2 := mComes_ok (a := a) (n := n) (b := b) (y := y) (z := z) hC ho ha (by omega) hb (by omega) (by omega)
  have c3 := (mComes_k a n b y z X).1
  by_cases hp : m_place X ((8 * n + a) * 8 + b) = 0
  · have e : mComes a n b y z X = ms_place (ms_entries (ms_inside (ms_ahead (ms_fact (ms_node (ms_startFact X (up (m_startFact X) (m_entries X) a)) (up (m_node X) (m_entries X) n)) (up (m_fact X) (m_entries X) b)) (up (m_ahead X) (m_entries X) y)) (up (m_inside X) (m_entries X) z)) (m_entries X + 1)) (up (m_place X) ((8 * n + a) * 8 + b) (m_entries X + 1)) := if_pos hp
    have t4 := vTr_comes (y := y) (z := z) h4 hE.1 hp ha hn hb hy hz hs
    rw [e] at c1 c2 c3 ⊢
    refine ⟨⟨c1, c2, c3.trans h3, t4, own, vCr_mono h5 (show m_entries X ≤ m_entries X + 1 by omega)⟩, ⟨show m_entries X ≤ m_entries X + 1 by omega, fun i i0 i1 => ?_, fun k k0 k1 => ⟨fun hq => ?_, fun hq => ?_⟩, rfl⟩⟩
    · exact ⟨up_n _ _ (by omega), up_n _ _ (by omega), up_n _ _ (by omega), up_n _ _ (by omega), up_n _ _ (by omega)⟩
    · exact up_n _ _ (fun hh => hq (by rw [hh]; exact hp))
    · show up (m_place X) ((8 * n + a) * 8 + b) (m_entries X + 1) k = 0 ∨ m_entries X < up (m_place X) ((8 * n + a) * 8 + b) (m_entries X + 1) k
      unfold up
      split
      · exact Or.inr (by omega)
      · exact Or.inl hq
  · have e : mComes a n b y z X = X := if_neg hp
    rw [e]
    exact ⟨⟨hC, ho, h3, h4, own, h5⟩, mEx_rf X⟩
theorem vV_all {N : Int → Int} {X : Md} {a m x y z : Int} (hN : nOk N) (h : vV N X) (ha : 0 ≤ a ∧ a < 8) (hm : 0 ≤ m ∧ m < N 1) (hy : -1 ≤ y ∧ y < m_entries X) (hz : -1 ≤ z ∧ z < m_entries X) (hs : N (14 + 2 * m + 1) ≠ 0) : vV N (mAll a m x y z X) ∧ mEx X (mAll a m x y z X) ∧ mCa (mAll a m x y z X) = mCa X := by
  refine it_inv (fun _ Y => vV N Y ∧ mEx X Y ∧ mCa Y = mCa X) (b := 8) 8 0 X (by omega) ⟨h, mEx_rf X, rfl⟩ (fun j Y j0 j1 hY => ?_)
  obtain ⟨v, x, c⟩ := hY
  show vV N (mAllF a m _ y z j Y) ∧ mEx X (mAllF a m _ y z j Y) ∧ mCa (mAllF a m _ y z j Y) = mCa X
  unfold mAllF
  split
  · have hx := x.1
    have := vV_comes (a := a) (n := m) (b := j) (y := y) (z := z) hN v ha hm (by omega) (by omega) (by omega) (fun hh => absurd hh hs)
    exact ⟨this.1, mEx_tr x this.2, (mComes_Ca _ _ _ _ _ _).trans c⟩
  · exact ⟨v, x, c⟩
theorem mNotes_N (q c t e : Int) (M : Md) : mN (mNotes q c t e M) = mN M := by
  unfold mNotes; split <;> rfl
theorem vV_notes {N : Int → Int} {X : Md} {q c t e : Int} (h : vV N X) (hq : 0 ≤ q ∧ q < 5) (hc : 0 ≤ c ∧ c < 8) (ht : 0 ≤ t ∧ t < m_entries X) (he : 0 ≤ e ∧ e < N 2) (he2 : e < 32) (hca : m_callers X < 16384) : vV N (mNotes q c t e X) ∧ mEx X (mNotes q c t e X) ∧ m_callers (mNotes q c t e X) = m_callers X + 1 ∧ ∀ key : Int, 0 ≤ key → key < 40 → mLs (mNotes q c t e X) key = mLs X key ++ (if key = 8 * q + c then [32 * t + e] else []) := by
  obtain ⟨hC, ho, h3, h4, own, h5⟩ := h
  have hE := ho.2.2.2.2.2.2.2.2.1
  have hn := ho.2.2.2.2.2.2.2.2.2.2.2.2.2.1
  have c1 := mNotes_ok (q := q) (c := c) (t := t) (e := e) hC ho hq hc (by omega) (by omega) hca
  have hv : 0 ≤ 32 * t + e ∧ (32 * t + e) / 32 < m_entries X ∧ (32 * t + e) % 32 < N 2 := by omega
  have hC5 : ∃ fo fi la, vCr (m_entries X) (N 2) (m_callers X + 1) (up own (m_callers X) (8 * q + c)) (up (m_caller X) (m_callers X) (32 * t + e)) fo fi la ∧ m_following (mNotes q c t e X) = fo ∧ m_firstCaller (mNotes q c t e X) = fi ∧ m_lastCaller (mNotes q c t e X) = la ∧ m_caller (mNotes q c t e X) = up (m_caller X) (m_callers X) (32 * t + e) := by
    unfold mNotes
    split
    · rename_i hl
      exact ⟨_, _, _, vCr_noteA h5 hn.1 (by omega) hv hl, rfl, rfl, rfl, rfl⟩
    · rename_i hl
      exact ⟨_, _, _, vCr_noteB h5 hn.1 (by omega) hv hl, rfl, rfl, rfl, rfl⟩
  obtain ⟨fo, fi, la, h6, e1, e2, e3, e4⟩ := hC5
  have k : m_entries (mNotes q c t e X) = m_entries X ∧ m_place (mNotes q c t e X) = m_place X ∧ m_startFact (mNotes q c t e X) = m_startFact X ∧ m_node (mNotes q c t e X) = m_node X ∧ m_fact (mNotes q c t e X) = m_fact X ∧ m_ahead (mNotes q c t e X) = m_ahead X ∧ m_inside (mNotes q c t e X) = m_inside X := by
    unfold mNotes; split <;> exact ⟨rfl, rfl, rfl, rfl, rfl, rfl, rfl⟩
  obtain ⟨k1, k2, k3, k4, k5, k6, k7⟩ := k
  refine ⟨⟨c1.1, c1.2.1, c1.2.2.1.trans h3, by rw [k1, k2, k3, k4, k5, k6, k7]; exact h4, up own (m_callers X) (8 * q + c), by rw [k1, e1, e2, e3, e4, c1.2.2.2]; exact h6⟩, ⟨by omega, fun i _ _ => by rw [k3, k4, k5, k6, k7]; exact ⟨rfl, rfl, rfl, rfl, rfl⟩, fun k _ _ => by rw [k2]; exact ⟨fun _ => rfl, fun h => Or.inl h⟩, mNotes_N _ _ _ _ _⟩, c1.2.2.2, fun key g0 g1 => ?_⟩
  unfold mLs
  rw [e1, e2, e4]
  rw [mCh_eq h6 (m_callers X + 1).toNat 16384 0 (fi key) (Int.le_refl _) (by omega) (by omega) (h6.2 key g0 g1).1]
  rw [mCh_eq h5 (m_callers X).toNat 16384 0 (m_firstCaller X key) (Int.le_refl _) (by omega) (by omega) (h5.2 key g0 g1).1]
  rw [show (m_callers X + 1).toNat = (m_callers X).toNat + 1 by omega]
  exact lC_snoc (m_callers X).toNat 0 (by omega)

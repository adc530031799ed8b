/-! LOOSE in the reference: functions, and that each round but the last brings a bit (pure) -/
def pcF (x : Int) : Nat → Int
  | 0 => 0
  | k + 1 => pcF x k + (if tb x (k : Int) = true then 1 else 0)
theorem pcF_r (x : Int) (n : Nat) : 0 ≤ pcF x n ∧ pcF x n ≤ n := by
  induction n with
  | zero => exact ⟨Int.le_refl _, Int.le_refl _⟩
  | succ n ih => unfold pcF; split <;> omega
theorem pcF_le {x y : Int} (h : ∀ k : Int, 0 ≤ k → k < 8 → tb x k = true → tb y k = true) (n : Nat) (hn : n ≤ 8) : pcF x n ≤ pcF y n := by
  induction n with
  | zero => exact Int.le_refl _
  | succ n ih =>
    unfold pcF
    have := ih (by omega)
    have hk := h (n : Int) (by omega) (by omega)
    by_cases hx : tb x (n : Int) = true
    · rw [if_pos hx, if_pos (hk hx)]; omega
    · rw [if_neg hx]; split <;> omega
theorem pcF_lt {x y : Int} (h : ∀ k : Int, 0 ≤ k → k < 8 → tb x k = true → tb y k = true) (n : Nat) (hn : n ≤ 8) (he : ∃ k : Int, 0 ≤ k ∧ k < n ∧ tb x k ≠ tb y k) : pcF x n < pcF y n := by
  induction n with
  | zero => obtain ⟨k, k0, k1, _⟩ := he; omega
  | succ n ih =>
    unfold pcF
    have hl := pcF_le h n (by omega)
    have hk := h (n : Int) (by omega) (by omega)
    obtain ⟨k, k0, k1, kd⟩ := he
    by_cases hkn : k = (n : Int)
    · subst hkn
      by_cases hx : tb x (n : Int) = true
      · exact absurd ((hk hx).trans hx.symm).symm kd
      · rw [if_neg hx]
        have hy : tb y (n : Int) = true := by
          cases hty : tb y (n : Int) with
          | true => rfl
          | false => exact absurd (by rw [hty]; simpa using hx) kd
        rw [if_pos hy]; omega
    · have := ih (by omega) ⟨k, k0, by omega, kd⟩
      by_cases hx : tb x (n : Int) = true
      · rw [if_pos hx, if_pos (hk hx)]; omega
      · rw [if_neg hx]; split <;> omega
def wtF (L : Int → Int) : Nat → Int
  | 0 => 0
  | n + 1 => wtF L n + pcF (L (n : Int)) 8
theorem wtF_r (L : Int → Int) (n : Nat) : 0 ≤ wtF L n ∧ wtF L n ≤ 8 * n := by
  induction n with
  | zero => exact ⟨Int.le_refl _, Int.le_refl _⟩
  | succ n ih => unfold wtF; have := pcF_r (L (n : Int)) 8; omega
def lSub (L L' : Int → Int) : Prop := ∀ n : Int, 0 ≤ n → n < 24 → ∀ k : Int, 0 ≤ k → k < 8 → tb (L n) k = true → tb (L' n) k = true
theorem lSub_rf (L : Int → Int) : lSub L L := fun _ _ _ _ _ _ h => h
theorem lSub_tr {L L' L'' : Int → Int} (h : lSub L L') (h' : lSub L' L'') : lSub L L'' := fun n n0 n1 k k0 k1 hk => h' n n0 n1 k k0 k1 (h n n0 n1 k k0 k1 hk)
theorem wtF_le {L L' : Int → Int} (h : lSub L L') (n : Nat) (hn : n ≤ 24) : wtF L n ≤ wtF L' n := by
  induction n with
  | zero => exact Int.le_refl _
  | succ n ih =>
    unfold wtF
    have := ih (by omega)
    have := pcF_le (h (n : Int) (by omega) (by omega)) 8 (Nat.le_refl _)
    omega
def lOk (L : Int → Int) : Prop := ∀ j : Int, 0 ≤ j → j < 24 → 0 ≤ L j ∧ L j ≤ 255
theorem wtF_lt {L L' : Int → Int} (h : lSub L L') (ho : lOk L) (ho' : lOk L') (n : Nat) (hn : n ≤ 24) (he : ∃ j : Int, 0 ≤ j ∧ j < n ∧ L j ≠ L' j) : wtF L n < wtF L' n := by
  induction n with
  | zero => obtain ⟨k, k0, k1, _⟩ := he; omega
  | succ n ih =>
    unfold wtF
    have h1 := wtF_le h n (by omega)
    have h2 := pcF_le (h (n : Int) (by omega) (by omega)) 8 (Nat.le_refl _)
    obtain ⟨j, j0, j1, jd⟩ := he
    by_cases hj : j = (n : Int)
    · subst hj
      have r1 := ho (n : Int) (by omega) (by omega)
      have r2 := ho' (n : Int) (by omega) (by omega)
      have : ∃ k : Int, 0 ≤ k ∧ k < (8 : Nat) ∧ tb (L (n : Int)) k ≠ tb (L' (n : Int)) k := by
        refine Classical.byContradiction (fun hc => jd (tb_ext (by omega) (by omega) (by omega) (by omega) (fun k k0 k1 => ?_)))
        refine Classical.byContradiction (fun hd => hc ⟨k, k0, by omega, hd⟩)
      have := pcF_lt (h (n : Int) (by omega) (by omega)) 8 (Nat.le_refl _) this
      omega
    · have := ih (by omega) ⟨j, j0, by omega, jd⟩
      omega
theorem lSub_up {L : Int → Int} {i v : Int} (h : ∀ k : Int, 0 ≤ k → k < 8 → tb (L i) k = true → tb v k = true) : lSub L (up L i v) := by
  intro n n0 n1 k k0 k1 hk
  unfold up
  split
  · rename_i e; rw [e] at hk; exact h k k0 k1 hk
  · exact hk
theorem up_id {f : Int → Int} {i v : Int} (h : v = f i) : up f i v = f := by
  funext j
  unfold up
  split
  · rename_i e; rw [h, e]
  · rfl
def lT1 (N : Int → Int) (e : Int) (L : Int → Int) : Int := bO (L (N (62 + 27 * e + 1))) (nCarry N e 0 (L (N (62 + 27 * e + 0))))
def lT2 (N : Int → Int) (e : Int) (L : Int → Int) : Int := bO (lT1 N e L) (nCarry N e 2 (L (N (4 + 2 * N (62 + 27 * e + 2) + 1))))
def lTh (N : Int → Int) (e : Int) (L : Int → Int) : Int := bO (L (N (4 + 2 * N (62 + 27 * e + 2)))) (nCarry N e 1 (L (N (62 + 27 * e + 0))))
abbrev lU (N : Int → Int) (e : Int) (L : Int → Int) : Int → Int := up L (N (4 + 2 * N (62 + 27 * e + 2))) (lTh N e L)
def lStep (N : Int → Int) (e : Int) (s : Int × (Int → Int)) : Int × (Int → Int) :=
  if N (62 + 27 * e + 2) = -1 then (if s.1 ≠ 0 ∨ lT1 N e s.2 ≠ s.2 (N (62 + 27 * e + 1)) then 1 else 0, up s.2 (N (62 + 27 * e + 1)) (lT1 N e s.2))
  else (if (s.1 ≠ 0 ∨ lTh N e s.2 ≠ s.2 (N (4 + 2 * N (62 + 27 * e + 2)))) ∨ lT2 N e s.2 ≠ lU N e s.2 (N (62 + 27 * e + 1)) then 1 else 0, up (lU N e s.2) (N (62 + 27 * e + 1)) (lT2 N e s.2))
def lRound (N : Int → Int) (L : Int → Int) : Int × (Int → Int) := it (lStep N) (N 2).toNat 0 (0, L)
def lIter (N : Int → Int) : Nat → (Int → Int) → (Int → Int)
  | 0, L => L
  | k + 1, L => if (lRound N L).1 = 0 then (lRound N L).2 else lIter N k (lRound N L).2
def cLo (L : Int → Int) : Int → Int := it (fun k (f : Int → Int) => up f k 0) 24 0 L
def lSt (N L : Int → Int) : Int → Int := up (cLo L) (N 4) (N 3)
def mLo (M : Md) : Md := ms_loose M (lIter (m_now M) 193 (lSt (m_now M) (m_loose M)))
theorem nCarry_q (N : Int → Int) (e w x : Int) (hN : nOk N) (he : 0 ≤ e ∧ e < 32) (hw : 0 ≤ w ∧ w < 3) : 0 ≤ nCarry N e w x ∧ nCarry N e w x < 256 := by
  unfold nCarry
  refine it_inv (fun _ r => 0 ≤ r ∧ r < 256) (b := 8) 8 0 0 (by omega) (by omega) (fun a r a0 a1 hr => ?_)
  have := nFlow_q N e w a hN he hw (by omega)
  refine ⟨bO_0 _ _, bO_8 hr.2 ?_⟩
  split <;> omega
theorem lOk_up {L : Int → Int} {i v : Int} (h : lOk L) (hv : 0 ≤ v ∧ v < 256) : lOk (up L i v) := up_rng h i ⟨hv.1, by omega⟩
theorem tb_Ol {a b k : Int} (h : tb a k = true) : tb (bO a b) k = true := by rw [tb_O, h]; rfl
theorem lT_q {N L : Int → Int} {e : Int} (hN : nOk N) (h : lOk L) (he : 0 ≤ e ∧ e < 32) : (0 ≤ lT1 N e L ∧ lT1 N e L < 256) ∧ (N (62 + 27 * e + 2) ≠ -1 → (0 ≤ lT2 N e L ∧ lT2 N e L < 256) ∧ (0 ≤ lTh N e L ∧ lTh N e L < 256)) := by
  have c0 := nCarry_q N e 0 (L (N (62 + 27 * e + 0))) hN he (by omega)
  have c1 := nCarry_q N e 1 (L (N (62 + 27 * e + 0))) hN he (by omega)
  have c2 := nCarry_q N e 2 (L (N (4 + 2 * N (62 + 27 * e + 2) + 1))) hN he (by omega)
  have e0 := nEdge_q N e 0 hN he (by omega)
  have e1 := nEdge_q N e 1 hN he (by omega)
  have e2 := nEdge_q N e 2 hN he (by omega)
  have l1 := h (N (62 + 27 * e + 1)) (by omega) (by omega)
  have t1 : 0 ≤ lT1 N e L ∧ lT1 N e L < 256 := ⟨bO_0 _ _, bO_8 (by omega) c0.2⟩
  refine ⟨t1, fun hq => ⟨⟨bO_0 _ _, bO_8 t1.2 c2.2⟩, ⟨bO_0 _ _, bO_8 ?_ c1.2⟩⟩⟩
  have en := nEnd_q N (4 + 2 * N (62 + 27 * e + 2)) hN (by omega)
  have := h (N (4 + 2 * N (62 + 27 * e + 2))) (by omega) (by omega)
  omega
theorem ite10 {c : Prop} [Decidable c] : ((if c then (1 : Int) else 0) = 0 ∨ (if c then (1 : Int) else 0) = 1) ∧ ((if c then (1 : Int) else 0) ≠ 0 ↔ c) := by
  by_cases h : c
  · rw [if_pos h]; exact ⟨Or.inr rfl, fun _ => h, fun _ => by decide⟩
  · rw [if_neg h]; exact ⟨Or.inl rfl, fun hh => absurd rfl hh, fun hh => absurd hh h⟩
theorem lStep_ok {N : Int → Int} {e : Int} {s : Int × (Int → Int)} (hN : nOk N) (h : lOk s.2) (he : 0 ≤ e ∧ e < 32) (hfm : N (62 + 27 * e + 2) ≠ -1 → N (4 + 2 * N (62 + 27 * e + 2)) ≠ N (62 + 27 * e + 1)) : lOk (lStep N e s).2 ∧ lSub s.2 (lStep N e s).2 ∧ ((lStep N e s).1 = 0 ∨ (lStep N e s).1 = 1) ∧ (s.1 ≠ 0 → (lStep N e s).1 ≠ 0) ∧ (s.1 = 0 → (lStep N e s).1 ≠ 0 → ∃ j : Int, 0 ≤ j ∧ j < 24 ∧ s.2 j ≠ (lStep N e s).2 j) ∧ ((lStep N e s).1 = 0 → (lStep N e s).2 = s.2) := by
  obtain ⟨t1, t2⟩ := lT_q hN h he
  have e1 := nEdge_q N e 1 hN he (by omega)
  have e2 := nEdge_q N e 2 hN he (by omega)
  unfold lStep
  by_cases hq : N (62 + 27 * e + 2) = -1
  · rw [if_pos hq]
    have c := ite10 (c := s.1 ≠ 0 ∨ lT1 N e s.2 ≠ s.2 (N (62 + 27 * e + 1)))
    refine ⟨lOk_up h t1, lSub_up (fun k _ _ hk => tb_Ol hk), c.1, fun hs => c.2.mpr (Or.inl hs), fun hs hne => ?_, fun hz => ?_⟩
    · rcases c.2.mp hne with hd | hd
      · exact absurd hs hd
      · refine ⟨N (62 + 27 * e + 1), by omega, by omega, fun hh => hd ?_⟩
        have : s.2 (N (62 + 27 * e + 1)) = up s.2 (N (62 + 27 * e + 1)) (lT1 N e s.2) (N (62 + 27 * e + 1)) := hh
        rw [up_s] at this; exact this.symm
    · refine up_id (Classical.byContradiction (fun hd => c.2.mpr (Or.inr hd) hz))
  · obtain ⟨t2, th⟩ := t2 hq
    have hf := hfm hq
    have en := nEnd_q N (4 + 2 * N (62 + 27 * e + 2)) hN (by omega)
    rw [if_neg hq]
    have c := ite10 (c := (s.1 ≠ 0 ∨ lTh N e s.2 ≠ s.2 (N (4 + 2 * N (62 + 27 * e + 2)))) ∨ lT2 N e s.2 ≠ lU N e s.2 (N (62 + 27 * e + 1)))
    have um : lU N e s.2 (N (62 + 27 * e + 1)) = s.2 (N (62 + 27 * e + 1)) := up_n _ _ (fun hh => hf hh.symm)
    have u2 : lSub s.2 (lU N e s.2) := lSub_up (fun k _ _ hk => tb_Ol hk)
    refine ⟨lOk_up (lOk_up h th) t2, lSub_tr u2 (lSub_up (fun k _ _ hk => by rw [um] at hk; exact tb_Ol (tb_Ol hk))), c.1, fun hs => c.2.mpr (Or.inl (Or.inl hs)), fun hs hne => ?_, fun hz => ?_⟩
    · rcases c.2.mp hne with (hd | hd) | hd
      · exact absurd hs hd
      · refine ⟨N (4 + 2 * N (62 + 27 * e + 2)), by omega, by omega, fun hh => hd ?_⟩
        have : s.2 (N (4 + 2 * N (62 + 27 * e + 2))) = up (lU N e s.2) (N (62 + 27 * e + 1)) (lT2 N e s.2) (N (4 + 2 * N (62 + 27 * e + 2))) := hh
        rw [up_n _ _ hf] at this; exact (this.trans (up_s _ _ _)).symm
      · refine ⟨N (62 + 27 * e + 1), by omega, by omega, fun hh => hd ?_⟩
        have : s.2 (N (62 + 27 * e + 1)) = up (lU N e s.2) (N (62 + 27 * e + 1)) (lT2 N e s.2) (N (62 + 27 * e + 1)) := hh
        rw [up_s] at this; rw [um]; exact this.symm
    · have h1 : lTh N e s.2 = s.2 (N (4 + 2 * N (62 + 27 * e + 2))) := Classical.byContradiction (fun hd => c.2.mpr (Or.inl (Or.inr hd)) hz)
      have h2 : lT2 N e s.2 = lU N e s.2 (N (62 + 27 * e + 1)) := Classical.byContradiction (fun hd => c.2.mpr (Or.inr hd) hz)
      exact (up_id h2).trans (up_id h1)
theorem nWf_fm {N : Int → Int} (hN : nOk N) (hw : nWf N) {e : Int} (he : 0 ≤ e ∧ e < N 2) : N (62 + 27 * e + 2) ≠ -1 → N (4 + 2 * N (62 + 27 * e + 2)) ≠ N (62 + 27 * e + 1) := by
  intro hq hh
  have h2 := hN.2.2.1
  have e2 := nEdge_q N e 2 hN (by omega) (by omega)
  have w := hw.2.2.2 e he.1 he.2
  have q := hw.2.1 (N (62 + 27 * e + 2)) (by omega) w.2.2.2
  exact w.2.2.1 (by rw [← hh]; exact q.2.2.1)
/-- from one edge to the next -/
def lI9 (L : Int → Int) (s : Int × (Int → Int)) : Prop := lOk s.2 ∧ lSub L s.2 ∧ (s.1 = 0 ∨ s.1 = 1) ∧ (s.1 ≠ 0 → ∃ j : Int, 0 ≤ j ∧ j < 24 ∧ L j ≠ s.2 j) ∧ (s.1 = 0 → s.2 = L)
theorem lI9_step {N L : Int → Int} {e : Int} {s : Int × (Int → Int)} (hN : nOk N) (hw : nWf N) (he : 0 ≤ e ∧ e < N 2) (ho : lOk L) (h : lI9 L s) : lI9 L (lStep N e s) := by
  have h2 := hN.2.2.1
  obtain ⟨a, b, c, d, z⟩ := h
  have g := lStep_ok (s := s) hN a (by omega) (nWf_fm hN hw he)
  refine ⟨g.1, lSub_tr b g.2.1, g.2.2.1, fun hne => ?_, fun hz => ?_⟩
  · by_cases hs : s.1 = 0
    · have := g.2.2.2.2.1 hs hne
      rw [z hs] at this; exact this
    · obtain ⟨j, j0, j1, jd⟩ := d hs
      refine ⟨j, j0, j1, fun hh => jd ?_⟩
      have l0 := ho j j0 j1
      have l1 := a j j0 j1
      refine tb_ext (by omega) (by omega) (by omega) (by omega) (fun k k0 k1 => ?_)
      have f1 := b j j0 j1 k k0 k1
      have f2 := g.2.1 j j0 j1 k k0 k1
      rw [← hh] at f2
      cases t1 : tb (L j) k with
      | true => exact (f1 t1).symm
      | false =>
        cases t2 : tb (s.2 j) k with
        | true => exact absurd ((f2 t2).symm.trans t1) (by decide)
        | false => rfl
  · have hs : s.1 = 0 := Classical.byContradiction (fun hs => g.2.2.2.1 hs hz)
    exact (g.2.2.2.2.2 hz).trans (z hs)
theorem lRound_ok {N L : Int → Int} (hN : nOk N) (hw : nWf N) (ho : lOk L) : lI9 L (lRound N L) := by
  have h2 := hN.2.2.1
  exact it_inv (fun _ s => lI9 L s) (b := N 2) (N 2).toNat 0 (0, L) (by omega) ⟨ho, lSub_rf L, Or.inl rfl, fun h => absurd rfl h, fun _ => rfl⟩ (fun e s e0 e1 hs => lI9_step hN hw ⟨e0, e1⟩ ho hs)
theorem lRound_wt {N L : Int → Int} (hN : nOk N) (hw : nWf N) (ho : lOk L) (h : (lRound N L).1 ≠ 0) : wtF L 24 < wtF (lRound N L).2 24 := by
  obtain ⟨a, b, c, d, _⟩ := lRound_ok hN hw ho
  obtain ⟨j, j0, j1, jd⟩ := d h
  exact wtF_lt b ho a 24 (Nat.le_refl _) ⟨j, j0, by omega, jd⟩
theorem lSt_ok {N L : Int → Int} (hN : nOk N) (h : lOk L) : lOk (lSt N L) := by
  have h3 := hN.2.2.2.1
  refine lOk_up (fun j j0 j1 => ?_) (by omega)
  show 0 ≤ cLo L j ∧ cLo L j ≤ 255
  unfold cLo
  rw [it_put, if_pos (by omega)]; omega
theorem lIter_ok {N : Int → Int} (hN : nOk N) (hw : nWf N) (k : Nat) : ∀ L : Int → Int, lOk L → lOk (lIter N k L) := by
  induction k with
  | zero => intro L h; exact h
  | succ k ih =>
    intro L h
    have := (lRound_ok hN hw h).1
    unfold lIter
    split
    · exact this
    · exact ih _ this
theorem mLo_ok {M : Md} (h : mOk M) (hN : nOk (m_now M)) (hw : nWf (m_now M)) : mOk (mLo M) := by
  obtain ⟨h1, h2, h3, h4, h5, h6, h7, h8, h9, h10, h11, h12, h13, h14, h15, h16, h17, h18, h19, h20, h21, h22, h23, h24, h25⟩ := h
  exact ⟨h1, h2, h3, h4, h5, h6, h7, h8, h9, h10, h11, h12, h13, h14, h15, lIter_ok hN hw 193 _ (lSt_ok hN h16), h17, h18, h19, h20, h21, h22, h23, h24, h25⟩
def mLoose (n : Int) (M : Md) : Int × Md := if 0 ≤ n ∧ n ≤ m_now M 1 - 1 then (m_loose (mLo M) n, mLo M) else (-2, mBump 0 M)

/-! spelling a way in the reference: functions, ranges, an end (pure) -/
abbrev Sg : Type := (Int → Int) × Int × (Int → Int) × Int
abbrev spT (X : Md) (i so : Int) : Prop := m_ahead X i = -1 ∨ (so = 1 ∧ m_now X (14 + 2 * m_node X i + 1) = 0 ∧ m_startFact X i = m_fact X i)
def spTell (X : Md) (i : Int) (s : Sg) : Sg := (s.1, s.2.1 - 1, up s.2.2.1 s.2.2.2 (10 * m_node X i + m_fact X i), s.2.2.2 + 1)
def spOpen (X : Md) (i so : Int) (s : Sg) : Sg := if m_inside X i = -1 then (up (up s.1 (s.2.1 - 1) (4 * i + 2)) (s.2.1 - 1 + 1) (4 * m_ahead X i + so), s.2.1 - 1 + 1 + 1, s.2.2.1, s.2.2.2)
  else (up (up (up s.1 (s.2.1 - 1) (4 * i + 2)) (s.2.1 - 1 + 1) (4 * m_inside X i + 1)) (s.2.1 - 1 + 1 + 1) (4 * m_ahead X i + so), s.2.1 - 1 + 1 + 1 + 1, s.2.2.1, s.2.2.2)
def spStep (X : Md) (s : Sg) : Sg := if s.1 (s.2.1 - 1) % 4 = 2 ∨ spT X (s.1 (s.2.1 - 1) / 4) (s.1 (s.2.1 - 1) % 4) then spTell X (s.1 (s.2.1 - 1) / 4) s else spOpen X (s.1 (s.2.1 - 1) / 4) (s.1 (s.2.1 - 1) % 4) s
def spRun (X : Md) : Nat → Sg → Sg
  | 0, s => s
  | k + 1, s => if 0 < s.2.1 ∧ s.2.2.2 < 1000 then spRun X k (spStep X s) else s
def spAll (X : Md) (x : Int) : Sg := spRun X 1600000 (up (m_stack X) 0 (4 * x), 1, m_pairs X, 0)
def mSp (x : Int) (X : Md) : Md := ms_told (ms_pairs (ms_high (ms_stack X (spAll X x).1) (spAll X x).2.1) (spAll X x).2.2.1) (spAll X x).2.2.2
/-- what holds of the stack -/
def spI (x : Int) (s : Sg) : Prop := (0 ≤ s.2.1 ∧ s.2.1 ≤ 2 * x + 1) ∧ (0 ≤ s.2.2.2 ∧ s.2.2.2 ≤ 1000) ∧ (∀ j : Int, 0 ≤ j → j < s.2.1 → 0 ≤ s.1 j ∧ s.1 j % 4 ≤ 2 ∧ j + 2 * (s.1 j / 4) ≤ 2 * x) ∧ (∀ j : Int, 0 ≤ j → j < 8000 → 0 ≤ s.1 j ∧ s.1 j ≤ 6143) ∧ (∀ j : Int, 0 ≤ j → j < 1000 → 0 ≤ s.2.2.1 j ∧ s.2.2.1 j ≤ 239)
def spW (X : Md) (x : Int) : Prop := ∀ i : Int, 0 ≤ i → i ≤ x → (-1 ≤ m_ahead X i ∧ m_ahead X i < i) ∧ (-1 ≤ m_inside X i ∧ m_inside X i < i)
def spMu (s : Sg) : Int := (1000 - s.2.2.2) * 1537 + (if s.2.1 ≤ 0 then 0 else if s.1 (s.2.1 - 1) % 4 = 2 then 0 else s.1 (s.2.1 - 1) / 4)
theorem spMu_r {x : Int} {s : Sg} (h : spI x s) (hx : 0 ≤ x ∧ x < 1536) : (1000 - s.2.2.2) * 1537 ≤ spMu s ∧ spMu s ≤ (1000 - s.2.2.2) * 1537 + 1535 := by
  unfold spMu
  by_cases h1 : s.2.1 ≤ 0
  · rw [if_pos h1]; omega
  · rw [if_neg h1]
    have := h.2.2.1 (s.2.1 - 1) (by omega) (by omega)
    have h2 := h.1
    by_cases h3 : s.1 (s.2.1 - 1) % 4 = 2
    · rw [if_pos h3]; omega
    · rw [if_neg h3]; omega
theorem spTell_ok {X : Md} {x : Int} {s : Sg} (hM : mOk X) (hx : 0 ≤ x ∧ x < 1536) (h : spI x s) (h0 : 0 < s.2.1) (ht : s.2.2.2 < 1000) : spI x (spTell X (s.1 (s.2.1 - 1) / 4) s) ∧ spMu (spTell X (s.1 (s.2.1 - 1) / 4) s) < spMu s := by
  have a := h.2.2.1 (s.2.1 - 1) (by omega) (by omega)
  have hn := hM.2.2.2.2.1 (s.1 (s.2.1 - 1) / 4) (by omega) (by omega)
  have hf := hM.2.2.2.2.2.1 (s.1 (s.2.1 - 1) / 4) (by omega) (by omega)
  obtain ⟨h1, h2, h3, h4, h5⟩ := h
  have g : spI x (spTell X (s.1 (s.2.1 - 1) / 4) s) := ⟨⟨show 0 ≤ s.2.1 - 1 by omega, show s.2.1 - 1 ≤ 2 * x + 1 by omega⟩, ⟨show 0 ≤ s.2.2.2 + 1 by omega, show s.2.2.2 + 1 ≤ 1000 by omega⟩, fun j j0 j1 => h3 j j0 (by have : j < s.2.1 - 1 := j1; omega), h4, up_rng h5 _ (by omega)⟩
  refine ⟨g, ?_⟩
  have r1 := spMu_r g hx
  have r2 := spMu_r ⟨h1, h2, h3, h4, h5⟩ hx
  have e : (spTell X (s.1 (s.2.1 - 1) / 4) s).2.2.2 = s.2.2.2 + 1 := rfl
  rw [e] at r1
  omega
theorem spOpen_ok {X : Md} {x : Int} {s : Sg} (hx : 0 ≤ x ∧ x < 1536) (hW : spW X x) (h : spI x s) (h0 : 0 < s.2.1) (ht : s.2.2.2 < 1000) (hs : s.1 (s.2.1 - 1) % 4 ≠ 2) (ha : m_ahead X (s.1 (s.2.1 - 1) / 4) ≠ -1) : spI x (spOpen X (s.1 (s.2.1 - 1) / 4) (s.1 (s.2.1 - 1) % 4) s) ∧ spMu (spOpen X (s.1 (s.2.1 - 1) / 4) (s.1 (s.2.1 - 1) % 4) s) < spMu s := by
  have a := h.2.2.1 (s.2.1 - 1) (by omega) (by omega)
  have w := hW (s.1 (s.2.1 - 1) / 4) (by omega) (by omega)
  obtain ⟨h1, h2, h3, h4, h5⟩ := h
  have m1 : spMu s = (1000 - s.2.2.2) * 1537 + s.1 (s.2.1 - 1) / 4 := by
    unfold spMu; rw [if_neg (by omega), if_neg hs]
  unfold spOpen
  by_cases hi : m_inside X (s.1 (s.2.1 - 1) / 4) = -1
  · rw [if_pos hi]
    refine ⟨⟨⟨show 0 ≤ s.2.1 - 1 + 1 + 1 by omega, show s.2.1 - 1 + 1 + 1 ≤ 2 * x + 1 by omega⟩, h2, fun j j0 j1 => ?_, up_rng (up_rng h4 _ (by omega)) _ (by omega), h5⟩, ?_⟩
    · have j2 : j < s.2.1 - 1 + 1 + 1 := j1
      show 0 ≤ up (up s.1 (s.2.1 - 1) (4 * (s.1 (s.2.1 - 1) / 4) + 2)) (s.2.1 - 1 + 1) (4 * m_ahead X (s.1 (s.2.1 - 1) / 4) + s.1 (s.2.1 - 1) % 4) j ∧ up (up s.1 (s.2.1 - 1) (4 * (s.1 (s.2.1 - 1) / 4) + 2)) (s.2.1 - 1 + 1) (4 * m_ahead X (s.1 (s.2.1 - 1) / 4) + s.1 (s.2.1 - 1) % 4) j % 4 ≤ 2 ∧ j + 2 * (up (up s.1 (s.2.1 - 1) (4 * (s.1 (s.2.1 - 1) / 4) + 2)) (s.2.1 - 1 + 1) (4 * m_ahead X (s.1 (s.2.1 - 1) / 4) + s.1 (s.2.1 - 1) % 4) j / 4) ≤ 2 * x
      by_cases e1 : j = s.2.1 - 1 + 1
      · rw [e1, up_s]; omega
      · rw [up_n _ _ e1]
        by_cases e2 : j = s.2.1 - 1
        · rw [e2, up_s]; omega
        · rw [up_n _ _ e2]; exact h3 j j0 (by omega)
    · rw [m1]
      unfold spMu
      show (1000 - s.2.2.2) * 1537 + (if s.2.1 - 1 + 1 + 1 ≤ 0 then 0 else if up (up s.1 (s.2.1 - 1) (4 * (s.1 (s.2.1 - 1) / 4) + 2)) (s.2.1 - 1 + 1) (4 * m_ahead X (s.1 (s.2.1 - 1) / 4) + s.1 (s.2.1 - 1) % 4) (s.2.1 - 1 + 1 + 1 - 1) % 4 = 2 then 0 else up (up s.1 (s.2.1 - 1) (4 * (s.1 (s.2.1 - 1) / 4) + 2)) (s.2.1 - 1 + 1) (4 * m_ahead X (s.1 (s.2.1 - 1) / 4) + s.1 (s.2.1 - 1) % 4) (s.2.1 - 1 + 1 + 1 - 1) / 4) < _
      rw [show s.2.1 - 1 + 1 + 1 - 1 = s.2.1 - 1 + 1 by omega, up_s, if_neg (by omega), if_neg (by omega)]
      omega
  · rw [if_neg hi]
    refine ⟨⟨⟨show 0 ≤ s.2.1 - 1 + 1 + 1 + 1 by omega, show s.2.1 - 1 + 1 + 1 + 1 ≤ 2 * x + 1 by omega⟩, h2, fun j j0 j1 => ?_, up_rng (up_rng (up_rng h4 _ (by omega)) _ (by omega)) _ (by omega), h5⟩, ?_⟩
    · have j2 : j < s.2.1 - 1 + 1 + 1 + 1 := j1
      show 0 ≤ up (up (up s.1 (s.2.1 - 1) (4 * (s.1 (s.2.1 - 1) / 4) + 2)) (s.2.1 - 1 + 1) (4 * m_inside X (s.1 (s.2.1 - 1) / 4) + 1)) (s.2.1 - 1 + 1 + 1) (4 * m_ahead X (s.1 (s.2.1 - 1) / 4) + s.1 (s.2.1 - 1) % 4) j ∧ up (up (up s.1 (s.2.1 - 1) (4 * (s.1 (s.2.1 - 1) / 4) + 2)) (s.2.1 - 1 + 1) (4 * m_inside X (s.1 (s.2.1 - 1) / 4) + 1)) (s.2.1 - 1 + 1 + 1) (4 * m_ahead X (s.1 (s.2.1 - 1) / 4) + s.1 (s.2.1 - 1) % 4) j % 4 ≤ 2 ∧ j + 2 * (up (up (up s.1 (s.2.1 - 1) (4 * (s.1 (s.2.1 - 1) / 4) + 2)) (s.2.1 - 1 + 1) (4 * m_inside X (s.1 (s.2.1 - 1) / 4) + 1)) (s.2.1 - 1 + 1 + 1) (4 * m_ahead X (s.1 (s.2.1 - 1) / 4) + s.1 (s.2.1 - 1) % 4) j / 4) ≤ 2 * x
      by_cases e1 : j = s.2.1 - 1 + 1 + 1
      · rw [e1, up_s]; omega
      · rw [up_n _ _ e1]
        by_cases e2 : j = s.2.1 - 1 + 1
        · rw [e2, up_s]; omega
        · rw [up_n _ _ e2]
          by_cases e3 : j = s.2.1 - 1
          · rw [e3, up_s]; omega
          · rw [up_n _ _ e3]; exact h3 j j0 (by omega)
    · rw [m1]
      unfold spMu
      show (1000 - s.2.2.2) * 1537 + (if s.2.1 - 1 + 1 + 1 + 1 ≤ 0 then 0 else if up (up (up s.1 (s.2.1 - 1) (4 * (s.1 (s.2.1 - 1) / 4) + 2)) (s.2.1 - 1 + 1) (4 * m_inside X (s.1 (s.2.1 - 1) / 4) + 1)) (s.2.1 - 1 + 1 + 1) (4 * m_ahead X (s.1 (s.2.1 - 1) / 4) + s.1 (s.2.1 - 1) % 4) (s.2.1 - 1 + 1 + 1 + 1 - 1) % 4 = 2 then 0 else up (up (up s.1 (s.2.1 - 1) (4 * (s.1 (s.2.1 - 1) / 4) + 2)) (s.2.1 - 1 + 1) (4 * m_inside X (s.1 (s.2.1 - 1) / 4) + 1)) (s.2.1 - 1 + 1 + 1) (4 * m_ahead X (s.1 (s.2.1 - 1) / 4) + s.1 (s.2.1 - 1) % 4) (s.2.1 - 1 + 1 + 1 + 1 - 1) / 4) < _
      rw [show s.2.1 - 1 + 1 + 1 + 1 - 1 = s.2.1 - 1 + 1 + 1 by omega, up_s, if_neg (by omega), if_neg (by omega)]
      omega
theorem spStep_ok {X : Md} {x : Int} {s : Sg} (hM : mOk X) (hx : 0 ≤ x ∧ x < 1536) (hW : spW X x) (h : spI x s) (h0 : 0 < s.2.1) (ht : s.2.2.2 < 1000) : spI x (spStep X s) ∧ spMu (spStep X s) < spMu s := by
  unfold spStep
  split
  · exact spTell_ok hM hx h h0 ht
  · rename_i hq
    exact spOpen_ok hx hW h h0 ht (fun hh => hq (Or.inl hh)) (fun hh => hq (Or.inr (Or.inl hh)))
theorem spI_0 {X : Md} {x : Int} (hM : mOk X) (hx : 0 ≤ x ∧ x < 1536) : spI x (up (m_stack X) 0 (4 * x), 1, m_pairs X, 0) := by
  have hs := hM.2.2.2.2.2.2.2.2.2.2.2.2.2.2.2.2.1
  have hp := hM.2.2.2.2.2.2.2.2.2.2.2.2.2.2.2.2.2.2.1
  refine ⟨⟨show (0 : Int) ≤ 1 by omega, show (1 : Int) ≤ 2 * x + 1 by omega⟩, ⟨show (0 : Int) ≤ 0 by omega, show (0 : Int) ≤ 1000 by omega⟩, fun j j0 j1 => ?_, up_rng hs _ (by omega), hp⟩
  have : j = 0 := by have : j < 1 := j1; omega
  subst this
  show 0 ≤ up (m_stack X) 0 (4 * x) 0 ∧ up (m_stack X) 0 (4 * x) 0 % 4 ≤ 2 ∧ 0 + 2 * (up (m_stack X) 0 (4 * x) 0 / 4) ≤ 2 * x
  rw [up_s]; omega
theorem spRun_ok {X : Md} {x : Int} (hM : mOk X) (hx : 0 ≤ x ∧ x < 1536) (hW : spW X x) (k : Nat) : ∀ s : Sg, spI x s → spI x (spRun X k s) := by
  induction k with
  | zero => intro s h; exact h
  | succ k ih =>
    intro s h
    unfold spRun
    split
    · rename_i hc; exact ih _ (spStep_ok hM hx hW h hc.1 hc.2).1
    · exact h
theorem mSp_ok {X : Md} {x : Int} (hM : mOk X) (hx : 0 ≤ x ∧ x < 1536) (hW : spW X x) : mOk (mSp x X) := by
  obtain ⟨g1, g2, g3, g4, g5⟩ := spRun_ok hM hx hW 1600000 _ (spI_0 hM hx)
  obtain ⟨h1, h2, h3, h4, h5, h6, h7, h8, h9, h10, h11, h12, h13, h14, h15, h16, h17, h18, h19, h20, h21, h22, h23, h24, h25⟩ := hM
  refine ⟨h1, h2, h3, h4, h5, h6, h7, h8, h9, h10, h11, h12, h13, h14, h15, h16, g4, ⟨g1.1, ?_⟩, g5, g2, h21, h22, h23, h24, h25⟩
  show (spAll X x).2.1 ≤ 8000
  have : (spAll X x).2.1 ≤ 2 * x + 1 := g1.2
  omega

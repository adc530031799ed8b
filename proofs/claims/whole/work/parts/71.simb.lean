/-! SIMULATION: the other changes of a program -/
theorem pR_addNode {P : Pg} {f : Int → Int} {p : Int} (hN : nOk f) (h : pR P f) : (pAddNode P p).1 = (nAddAny f p).1 ∧ pR (pAddNode P p).2 (nAddAny f p).2 := by
  obtain ⟨h0, h1, h2, h3, h4, h5, h6⟩ := id h
  have n0 := hN.1
  have n1 := hN.2.1
  have n2 := hN.2.2.1
  unfold pAddNode nAddAny
  by_cases hp : 0 ≤ p ∧ p ≤ f 0 - 1
  · rw [if_neg (show ¬ ¬ (0 ≤ p ∧ p < p_procs P) by omega), if_neg (show ¬ ¬ (0 ≤ p ∧ p ≤ f 0 - 1) by omega)]
    by_cases hc : f 1 = 24
    · rw [if_pos hc, if_pos (by omega)]; exact ⟨rfl, h⟩
    · rw [if_neg hc, if_neg (by omega)]
      have at_ := nNode_at f p 2 n1.1
      generalize nNode f p 2 = F at at_
      have e0 : F 0 = f 0 := by rw [at_]; (repeat' split) <;> omega
      have e1 : F 1 = f 1 + 1 := by rw [at_]; (repeat' split) <;> omega
      have e2 : F 2 = f 2 := by rw [at_]; (repeat' split) <;> omega
      have e3 : F 3 = f 3 := by rw [at_]; (repeat' split) <;> omega
      have big : ∀ c : Int, 62 ≤ c → F c = f c := by intro c hc; rw [at_]; (repeat' split) <;> omega
      have nd : ∀ n : Int, 0 ≤ n → n < f 1 → F (14 + 2 * n) = f (14 + 2 * n) ∧ F (14 + 2 * n + 1) = f (14 + 2 * n + 1) := by intro n _ _; rw [at_, at_]; constructor <;> ((repeat' split) <;> omega)
      have en : ∀ c : Int, 4 ≤ c → c < 14 → F c = f c := by intro c _ _; rw [at_]; (repeat' split) <;> omega
      have p1 : F (14 + 2 * f 1) = p ∧ F (14 + 2 * f 1 + 1) = 2 := by rw [at_, at_]; constructor <;> ((repeat' split) <;> omega)
      refine ⟨h1, ?_, ?_, ?_, ?_, fun q q0 q1 => ?_, fun n q0 q1 => ?_, fun e q0 q1 => ?_⟩
      · show p_procs P = F 0; omega
      · show p_nodes P + 1 = F 1; omega
      · show p_edges P = F 2; omega
      · show p_start P = F 3; omega
      · have q2 : q < F 0 := q1
        show p_entryOf P q = F (4 + 2 * q) ∧ p_exitOf P q = F (4 + 2 * q + 1)
        rw [en (4 + 2 * q) (by omega) (by omega), en (4 + 2 * q + 1) (by omega) (by omega)]
        exact h4 q q0 (by omega)
      · have q2 : n < F 1 := q1
        show up (p_procOf P) (p_nodes P) p n = F (14 + 2 * n) ∧ up (p_kindOf P) (p_nodes P) 2 n = F (14 + 2 * n + 1)
        by_cases hn : n < f 1
        · have := h5 n q0 hn
          have hE := nd n q0 hn
          rw [up_n _ _ (by omega), up_n _ _ (by omega)]; omega
        · have : n = f 1 := by omega
          subst this
          rw [up_a, if_pos (by omega), up_a, if_pos (by omega)]; omega
      · have q2 : e < F 2 := q1
        have := h6 e q0 (by omega)
        show p_from P e = F (62 + 27 * e + 0) ∧ p_to P e = F (62 + 27 * e + 1) ∧ p_callee P e = F (62 + 27 * e + 2) ∧ ∀ w a : Int, 0 ≤ w → w < 3 → 0 ≤ a → a < 8 → pReach P e w a = F (62 + 27 * e + 3 + 8 * w + a)
        rw [big (62 + 27 * e + 0) (by omega), big (62 + 27 * e + 1) (by omega), big (62 + 27 * e + 2) (by omega)]
        refine ⟨this.1, this.2.1, this.2.2.1, fun w a w0 w1 a0 a1 => ?_⟩
        rw [big _ (by omega)]
        exact this.2.2.2 w a w0 w1 a0 a1
  · rw [if_pos (show ¬ (0 ≤ p ∧ p < p_procs P) by omega), if_pos hp]; exact ⟨rfl, h⟩
theorem nWf_addAny {f : Int → Int} {p : Int} (hN : nOk f) (hw : nWf f) : nWf (nAddAny f p).2 := by
  have n0 := hN.1
  have n1 := hN.2.1
  have n2 := hN.2.2.1
  unfold nAddAny
  by_cases hp : 0 ≤ p ∧ p ≤ f 0 - 1
  · rw [if_neg (show ¬ ¬ (0 ≤ p ∧ p ≤ f 0 - 1) by omega)]
    by_cases hc : f 1 = 24
    · rw [if_pos hc]; exact hw
    · rw [if_neg hc]
      show nWf (nNode f p 2)
      have at_ := nNode_at f p 2 n1.1
      generalize nNode f p 2 = F at at_ ⊢
      have e0 : F 0 = f 0 := by rw [at_]; (repeat' split) <;> omega
      have e1 : F 1 = f 1 + 1 := by rw [at_]; (repeat' split) <;> omega
      have e2 : F 2 = f 2 := by rw [at_]; (repeat' split) <;> omega
      have big : ∀ c : Int, 62 ≤ c → F c = f c := by intro c hc; rw [at_]; (repeat' split) <;> omega
      have nd : ∀ n : Int, 0 ≤ n → n < f 1 → F (14 + 2 * n) = f (14 + 2 * n) ∧ F (14 + 2 * n + 1) = f (14 + 2 * n + 1) := by intro n _ _; rw [at_, at_]; constructor <;> ((repeat' split) <;> omega)
      have en : ∀ c : Int, 4 ≤ c → c < 14 → F c = f c := by intro c _ _; rw [at_]; (repeat' split) <;> omega
      have p1 : F (14 + 2 * f 1) = p ∧ F (14 + 2 * f 1 + 1) = 2 := by rw [at_, at_]; constructor <;> ((repeat' split) <;> omega)
      refine ⟨by rw [e0]; exact hw.1, fun q q0 q1 => ?_, fun n m0 m1 => ?_, fun e m0 m1 => ?_⟩
      · rw [e0] at q1
        have w := hw.2.1 q q0 q1
        have x1 := nEnd_q f (4 + 2 * q) hN (by omega)
        have x2 := nEnd_q f (4 + 2 * q + 1) hN (by omega)
        rw [e1, en (4 + 2 * q) (by omega) (by omega), en (4 + 2 * q + 1) (by omega) (by omega), (nd _ x1.1 w.1).2, (nd _ x2.1 w.2.1).2]
        exact ⟨by omega, by omega, w.2.2⟩
      · rw [e1] at m1
        rw [e0]
        by_cases h1 : n < f 1
        · rw [(nd n m0 h1).1]; exact hw.2.2.1 n m0 h1
        · have : n = f 1 := by omega
          rw [this, p1.1]; omega
      · rw [e2] at m1
        have w := hw.2.2.2 e m0 m1
        have x1 := nEdge_q f e 1 hN (by omega) (by omega)
        rw [big (62 + 27 * e + 0) (by omega), big (62 + 27 * e + 1) (by omega), big (62 + 27 * e + 2) (by omega), (nd _ (by omega) w.2.1).2, e0, e1]
        exact ⟨by omega, by omega, w.2.2.1, by omega⟩
  · rw [if_pos hp]; exact hw
/-! a new EDGE -/
theorem it_putF {d : Int} {g : Int → Int} (n : Nat) : ∀ (i : Int) (f : Int → Int) (j : Int), it (fun k (f : Int → Int) => up f (d + k) (g k)) n i f j = if d + i ≤ j ∧ j < d + i + n then g (j - d) else f j := by
  induction n with
  | zero => intro i f j; rw [it_0, if_neg (by omega)]
  | succ n ih =>
    intro i f j
    rw [it_s, ih]
    by_cases h : d + (i + 1) ≤ j ∧ j < d + (i + 1) + n
    · rw [if_pos h, if_pos (by omega)]
    · rw [if_neg h]
      by_cases hj : j = d + i
      · rw [hj, up_s, if_pos (by omega)]; congr 1; omega
      · rw [up_n _ _ hj, if_neg (by omega)]
theorem nE2_at (f : Int → Int) (n m q : Int) (c : Int) : nE2 f n m q c = if 62 + 27 * f 2 + 3 ≤ c ∧ c < 62 + 27 * f 2 + 3 + 24 then p2 ((c - (62 + 27 * f 2 + 3)) % 8) else if c = 62 + 27 * f 2 + 2 then q else if c = 62 + 27 * f 2 + 1 then m else if c = 62 + 27 * f 2 then n else f c := by
  have := it_putF (d := 62 + 27 * f 2 + 3) (g := fun k => p2 (k % 8)) 24 0 (nE1 f n m q) c
  unfold nE2
  rw [this]
  by_cases h : 62 + 27 * f 2 + 3 ≤ c ∧ c < 62 + 27 * f 2 + 3 + 24
  · rw [if_pos h, if_pos (by omega)]
  · rw [if_neg h, if_neg (by omega)]
    unfold nE1
    rw [up_a, up_a, up_a]
theorem pPlain_at (P : Pg) (f : Int → Int64) (j : Int) : pPlainF P f j = if p_edges P * 3 ≤ j ∧ j < p_edges P * 3 + 3 then plL else f j := by
  unfold pPlainF
  rw [show it (fun w (f : Int → Int64) => up f (p_edges P * 3 + w) plL) 3 0 f = up (up (up f (p_edges P * 3 + 0) plL) (p_edges P * 3 + (0 + 1)) plL) (p_edges P * 3 + (0 + 1 + 1)) plL from rfl]
  rw [up_a, up_a, up_a]
  by_cases h1 : j = p_edges P * 3 + (0 + 1 + 1)
  · rw [if_pos h1, if_pos (by omega)]
  · rw [if_neg h1]
    by_cases h2 : j = p_edges P * 3 + (0 + 1)
    · rw [if_pos h2, if_pos (by omega)]
    · rw [if_neg h2]
      by_cases h3 : j = p_edges P * 3 + 0
      · rw [if_pos h3, if_pos (by omega)]
      · rw [if_neg h3, if_neg (by omega)]
theorem nAE_f {f F : Int → Int} {n m q : Int} (hN : nOk f) (at_ : ∀ c : Int, F c = if c = 2 then f 2 + 1 else if 62 + 27 * f 2 + 3 ≤ c ∧ c < 62 + 27 * f 2 + 3 + 24 then p2 ((c - (62 + 27 * f 2 + 3)) % 8) else if c = 62 + 27 * f 2 + 2 then q else if c = 62 + 27 * f 2 + 1 then m else if c = 62 + 27 * f 2 then n else f c) : F 2 = f 2 + 1 ∧ (∀ c : Int, c < 62 → c ≠ 2 → F c = f c) ∧ (∀ c : Int, 62 ≤ c → c < 62 + 27 * f 2 → F c = f c) ∧ (F (62 + 27 * f 2 + 0) = n ∧ F (62 + 27 * f 2 + 1) = m ∧ F (62 + 27 * f 2 + 2) = q) ∧ (∀ w a : Int, 0 ≤ w → w < 3 → 0 ≤ a → a < 8 → F (62 + 27 * f 2 + 3 + 8 * w + a) = p2 a) := by
  have n2 := hN.2.2.1
  refine ⟨?_, fun c c0 c1 => ?_, fun c c0 c1 => ?_, ⟨?_, ?_, ?_⟩, fun w a w0 w1 a0 a1 => ?_⟩
  · rw [at_, if_pos rfl]
  · rw [at_, if_neg c1, if_neg (by omega), if_neg (by omega), if_neg (by omega), if_neg (by omega)]
  · rw [at_, if_neg (by omega), if_neg (by omega), if_neg (by omega), if_neg (by omega), if_neg (by omega)]
  · rw [at_, if_neg (by omega), if_neg (by omega), if_neg (by omega), if_neg (by omega), if_pos (by omega)]
  · rw [at_, if_neg (by omega), if_neg (by omega), if_neg (by omega), if_pos (by omega)]
  · rw [at_, if_neg (by omega), if_neg (by omega), if_pos (by omega)]
  · rw [at_, if_neg (by omega), if_pos (by omega)]
    congr 1
    omega
theorem nAE_at {f : Int → Int} {n m q : Int} (hN : nOk f) (c : Int) : up (nE2 f n m q) 2 (nE2 f n m q 2 + 1) c = if c = 2 then f 2 + 1 else if 62 + 27 * f 2 + 3 ≤ c ∧ c < 62 + 27 * f 2 + 3 + 24 then p2 ((c - (62 + 27 * f 2 + 3)) % 8) else if c = 62 + 27 * f 2 + 2 then q else if c = 62 + 27 * f 2 + 1 then m else if c = 62 + 27 * f 2 then n else f c := by
  have n2 := hN.2.2.1
  have e2 : nE2 f n m q 2 = f 2 := by
    rw [nE2_at, if_neg (by omega), if_neg (by omega), if_neg (by omega), if_neg (by omega)]
  rw [up_a, e2, nE2_at]
theorem pR_edge {P : Pg} {f : Int → Int} {n m q : Int} (hN : nOk f) (h : pR P f) (hc : ¬ f 2 = 32) : pR (pAddEdge P n q m).2 (up (nE2 f n m q) 2 (nE2 f n m q 2 + 1)) := by
  obtain ⟨h0, h1, h2, h3, h4, h5, h6⟩ := id h
  have n0 := hN.1
  have n1 := hN.2.1
  have n2 := hN.2.2.1
  have at_ := nAE_at (n := n) (m := m) (q := q) hN
  generalize up (nE2 f n m q) 2 (nE2 f n m q 2 + 1) = F at at_
  obtain ⟨e2, lo, hi, ⟨a0, a1, a2⟩, a3⟩ := nAE_f hN at_
  have e0 := lo 0 (by omega) (by omega)
  have e1 := lo 1 (by omega) (by omega)
  have e3 := lo 3 (by omega) (by omega)
  unfold pAddEdge
  rw [if_neg (by omega)]
  refine ⟨?_, ?_, ?_, ?_, fun k q0 q1 => ?_, fun k q0 q1 => ?_, fun e q0 q1 => ?_⟩
  · show p_procs P = F 0; omega
  · show p_nodes P = F 1; omega
  · show p_edges P + 1 = F 2; omega
  · show p_start P = F 3; omega
  · have q2 : k < F 0 := q1
    show p_entryOf P k = F (4 + 2 * k) ∧ p_exitOf P k = F (4 + 2 * k + 1)
    rw [lo (4 + 2 * k) (by omega) (by omega), lo (4 + 2 * k + 1) (by omega) (by omega)]
    exact h4 k q0 (by omega)
  · have q2 : k < F 1 := q1
    show p_procOf P k = F (14 + 2 * k) ∧ p_kindOf P k = F (14 + 2 * k + 1)
    rw [lo (14 + 2 * k) (by omega) (by omega), lo (14 + 2 * k + 1) (by omega) (by omega)]
    exact h5 k q0 (by omega)
  · have q2 : e < F 2 := q1
    show up (p_from P) (p_edges P) n e = F (62 + 27 * e + 0) ∧ up (p_to P) (p_edges P) m e = F (62 + 27 * e + 1) ∧ up (p_callee P) (p_edges P) q e = F (62 + 27 * e + 2) ∧ ∀ w a : Int, 0 ≤ w → w < 3 → 0 ≤ a → a < 8 → byL (pPlainF P (p_flow P) (e * 3 + w)) a = F (62 + 27 * e + 3 + 8 * w + a)
    by_cases he : e < f 2
    · have g := h6 e q0 he
      rw [up_n _ _ (by omega), up_n _ _ (by omega), up_n _ _ (by omega), hi (62 + 27 * e + 0) (by omega) (by omega), hi (62 + 27 * e + 1) (by omega) (by omega), hi (62 + 27 * e + 2) (by omega) (by omega)]
      refine ⟨g.1, g.2.1, g.2.2.1, fun w a w0 w1 b0 b1 => ?_⟩
      rw [hi _ (by omega) (by omega), pPlain_at, if_neg (by omega)]
      exact g.2.2.2 w a w0 w1 b0 b1
    · have : e = f 2 := by omega
      subst this
      rw [up_a, if_pos (by omega), up_a, if_pos (by omega), up_a, if_pos (by omega)]
      refine ⟨a0.symm, a1.symm, a2.symm, fun w a w0 w1 b0 b1 => ?_⟩
      rw [a3 w a w0 w1 b0 b1, pPlain_at, if_pos (by omega), byL_plain b0 b1]
theorem nWf_edge {f : Int → Int} {n m q : Int} (hN : nOk f) (hw : nWf f) (hn : 0 ≤ n ∧ n < f 1) (hm : 0 ≤ m ∧ m < f 1) (hs : f (14 + 2 * m + 1) ≠ 0) (hq : q < f 0) (hc : ¬ f 2 = 32) : nWf (up (nE2 f n m q) 2 (nE2 f n m q 2 + 1)) := by
  have n0 := hN.1
  have n1 := hN.2.1
  have n2 := hN.2.2.1
  have at_ := nAE_at (n := n) (m := m) (q := q) hN
  generalize up (nE2 f n m q) 2 (nE2 f n m q 2 + 1) = F at at_ ⊢
  obtain ⟨e2, lo, hi, ⟨a0, a1, a2⟩, a3⟩ := nAE_f hN at_
  have e0 := lo 0 (by omega) (by omega)
  have e1 := lo 1 (by omega) (by omega)
  refine ⟨by rw [e0]; exact hw.1, fun k q0 q1 => ?_, fun k m0 m1 => ?_, fun e m0 m1 => ?_⟩
  · rw [e0] at q1
    have w := hw.2.1 k q0 q1
    have x1 := nEnd_q f (4 + 2 * k) hN (by omega)
    have x2 := nEnd_q f (4 + 2 * k + 1) hN (by omega)
    rw [e1, lo (4 + 2 * k) (by omega) (by omega), lo (4 + 2 * k + 1) (by omega) (by omega), lo (14 + 2 * f (4 + 2 * k) + 1) (by omega) (by omega), lo (14 + 2 * f (4 + 2 * k + 1) + 1) (by omega) (by omega)]
    exact w
  · rw [e1] at m1
    rw [e0, lo (14 + 2 * k) (by omega) (by omega)]
    exact hw.2.2.1 k m0 m1
  · rw [e2] at m1
    by_cases he : e < f 2
    · have w := hw.2.2.2 e m0 he
      have x1 := nEdge_q f e 1 hN (by omega) (by omega)
      rw [hi (62 + 27 * e + 0) (by omega) (by omega), hi (62 + 27 * e + 1) (by omega) (by omega), hi (62 + 27 * e + 2) (by omega) (by omega), lo (14 + 2 * f (62 + 27 * e + 1) + 1) (by omega) (by omega), e0, e1]
      exact w
    · have : e = f 2 := by omega
      subst this
      rw [a0, a1, a2, lo (14 + 2 * m + 1) (by omega) (by omega), e0, e1]
      exact ⟨hn.2, hm.2, hs, hq⟩
theorem pR_addPlain {P : Pg} {f : Int → Int} {n m : Int} (hN : nOk f) (h : pR P f) : (pAddPlain P n m).1 = (nAddEdge f n m (-1)).1 ∧ pR (pAddPlain P n m).2 (nAddEdge f n m (-1)).2 := by
  obtain ⟨h0, h1, h2, h3, h4, h5, h6⟩ := id h
  have n2 := hN.2.2.1
  unfold pAddPlain nAddEdge
  by_cases hr : (0 ≤ n ∧ n < f 1) ∧ (0 ≤ m ∧ m < f 1)
  · have hn := h5 n (by omega) (by omega)
    have hm := h5 m (by omega) (by omega)
    by_cases hc : f (14 + 2 * n) = f (14 + 2 * m) ∧ f (14 + 2 * n + 1) ≠ 1 ∧ f (14 + 2 * m + 1) ≠ 0
    · rw [if_pos (show (0 ≤ n ∧ n < p_nodes P) ∧ (0 ≤ m ∧ m < p_nodes P) ∧ p_procOf P n = p_procOf P m ∧ p_kindOf P n ≠ 1 ∧ p_kindOf P m ≠ 0 by omega), if_pos (show ((0 ≤ n ∧ n ≤ f 1 - 1) ∧ (0 ≤ m ∧ m ≤ f 1 - 1) ∧ ((-1 : Int) = -1 ∨ (0 ≤ (-1 : Int) ∧ -1 ≤ f 0 - 1))) ∧ f (14 + 2 * n) = f (14 + 2 * m) ∧ f (14 + 2 * n + 1) ≠ 1 ∧ f (14 + 2 * m + 1) ≠ 0 by omega)]
      by_cases hf : f 2 = 32
      · rw [if_pos hf]; unfold pAddEdge; rw [if_pos (by omega)]; exact ⟨rfl, h⟩
      · rw [if_neg hf]
        refine ⟨?_, pR_edge hN h hf⟩
        unfold pAddEdge; rw [if_neg (by omega)]; exact h2
    · rw [if_neg (show ¬ ((0 ≤ n ∧ n < p_nodes P) ∧ (0 ≤ m ∧ m < p_nodes P) ∧ p_procOf P n = p_procOf P m ∧ p_kindOf P n ≠ 1 ∧ p_kindOf P m ≠ 0) by omega), if_neg (fun hh => hc hh.2)]; exact ⟨rfl, h⟩
  · rw [if_neg (show ¬ ((0 ≤ n ∧ n < p_nodes P) ∧ (0 ≤ m ∧ m < p_nodes P) ∧ p_procOf P n = p_procOf P m ∧ p_kindOf P n ≠ 1 ∧ p_kindOf P m ≠ 0) by omega), if_neg (fun hh => hr (by have := hh.1; omega))]; exact ⟨rfl, h⟩
theorem pR_addCall {P : Pg} {f : Int → Int} {n q m : Int} (hN : nOk f) (h : pR P f) : (pAddCall P n q m).1 = (nAddCall f n q m).1 ∧ pR (pAddCall P n q m).2 (nAddCall f n q m).2 := by
  obtain ⟨h0, h1, h2, h3, h4, h5, h6⟩ := id h
  have n2 := hN.2.2.1
  unfold pAddCall nAddCall
  by_cases hq : 0 ≤ q ∧ q ≤ f 0 - 1
  · rw [if_pos hq]
    unfold nAddEdge
    by_cases hr : (0 ≤ n ∧ n < f 1) ∧ (0 ≤ m ∧ m < f 1)
    · have hn := h5 n (by omega) (by omega)
      have hm := h5 m (by omega) (by omega)
      by_cases hc : f (14 + 2 * n) = f (14 + 2 * m) ∧ f (14 + 2 * n + 1) ≠ 1 ∧ f (14 + 2 * m + 1) ≠ 0
      · rw [if_pos (show (0 ≤ q ∧ q < p_procs P) ∧ ((0 ≤ n ∧ n < p_nodes P) ∧ (0 ≤ m ∧ m < p_nodes P) ∧ p_procOf P n = p_procOf P m ∧ p_kindOf P n ≠ 1 ∧ p_kindOf P m ≠ 0) by omega), if_pos (show ((0 ≤ n ∧ n ≤ f 1 - 1) ∧ (0 ≤ m ∧ m ≤ f 1 - 1) ∧ (q = -1 ∨ (0 ≤ q ∧ q ≤ f 0 - 1))) ∧ f (14 + 2 * n) = f (14 + 2 * m) ∧ f (14 + 2 * n + 1) ≠ 1 ∧ f (14 + 2 * m + 1) ≠ 0 by omega)]
        by_cases hf : f 2 = 32
        · rw [if_pos hf]; unfold pAddEdge; rw [if_pos (by omega)]; exact ⟨rfl, h⟩
        · rw [if_neg hf]
          refine ⟨?_, pR_edge hN h hf⟩
          unfold pAddEdge; rw [if_neg (by omega)]; exact h2
      · rw [if_neg (show ¬ ((0 ≤ q ∧ q < p_procs P) ∧ ((0 ≤ n ∧ n < p_nodes P) ∧ (0 ≤ m ∧ m < p_nodes P) ∧ p_procOf P n = p_procOf P m ∧ p_kindOf P n ≠ 1 ∧ p_kindOf P m ≠ 0)) by omega), if_neg (fun hh => hc hh.2)]; exact ⟨rfl, h⟩
    · rw [if_neg (show ¬ ((0 ≤ q ∧ q < p_procs P) ∧ ((0 ≤ n ∧ n < p_nodes P) ∧ (0 ≤ m ∧ m < p_nodes P) ∧ p_procOf P n = p_procOf P m ∧ p_kindOf P n ≠ 1 ∧ p_kindOf P m ≠ 0)) by omega), if_neg (fun hh => hr (by have := hh.1; omega))]; exact ⟨rfl, h⟩
  · rw [if_neg hq, if_neg (fun hh => hq (by have := hh.1; omega))]; exact ⟨rfl, h⟩
theorem nWf_addEdge {f : Int → Int} {n m q : Int} (hN : nOk f) (hw : nWf f) : nWf (nAddEdge f n m q).2 := by
  have n0 := hN.1
  have w0 := hw.1
  unfold nAddEdge
  split
  · rename_i hc
    split
    · exact hw
    · exact nWf_edge hN hw (by omega) (by omega) hc.2.2.2 (by omega) (by assumption)
  · exact hw
theorem nWf_addCall {f : Int → Int} {n q m : Int} (hN : nOk f) (hw : nWf f) : nWf (nAddCall f n q m).2 := by
  unfold nAddCall
  split
  · exact nWf_addEdge hN hw
  · exact hw
/-! FLOWS, START -/
theorem cell_ne {k e c w a : Int} (hc : 0 ≤ c ∧ c < 3) (hw : 0 ≤ w ∧ w ≤ 2) (ha : 0 ≤ a ∧ a ≤ 7) : 62 + 27 * k + c ≠ 62 + 27 * e + 3 + 8 * w + a := by
  intro h
  have h1 : 27 * (k - e) = 3 + (8 * w + a) - c := by omega
  have h2 : 0 ≤ 8 * w + a ∧ 8 * w + a < 24 := by omega
  generalize 8 * w + a = t at h1 h2
  omega
theorem cell_eq {k e w w' a a' : Int} (hw : 0 ≤ w ∧ w ≤ 2) (ha : 0 ≤ a ∧ a ≤ 7) (hw' : 0 ≤ w' ∧ w' ≤ 2) (ha' : 0 ≤ a' ∧ a' ≤ 7) (h : 62 + 27 * k + 3 + 8 * w' + a' = 62 + 27 * e + 3 + 8 * w + a) : k = e ∧ w' = w ∧ a' = a := by
  have h1 : 27 * (k - e) = (8 * w + a) - (8 * w' + a') := by omega
  have h2 : 0 ≤ 8 * w + a ∧ 8 * w + a < 24 := by omega
  have h3 : 0 ≤ 8 * w' + a' ∧ 8 * w' + a' < 24 := by omega
  have h4 : k = e ∧ 8 * w + a = 8 * w' + a' := by
    generalize 8 * w + a = t at h1 h2 ⊢
    generalize 8 * w' + a' = t' at h1 h3 ⊢
    omega
  omega
theorem pR_setFlow {P : Pg} {f : Int → Int} {e w a v : Int} (hN : nOk f) (h : pR P f) : (pSetFlow P e w a v).1 = (nSetFlow f e w a v).1 ∧ pR (pSetFlow P e w a v).2 (nSetFlow f e w a v).2 := by
  obtain ⟨h0, h1, h2, h3, h4, h5, h6⟩ := id h
  have n0 := hN.1
  have n1 := hN.2.1
  have n2 := hN.2.2.1
  unfold pSetFlow nSetFlow
  by_cases hr : (0 ≤ e ∧ e < f 2) ∧ (0 ≤ a ∧ a ≤ 7) ∧ (0 ≤ v ∧ v ≤ 255)
  · have g := h6 e hr.1.1 hr.1.2
    have ho := tb_odd (a := v) hr.2.2.1
    have hcond : (((0 ≤ e ∧ e < p_edges P) ∧ 0 ≤ w ∧ w < (if p_callee P e = -1 then 1 else 3)) ∧ (0 ≤ a ∧ a < 8) ∧ (0 ≤ v ∧ v ≤ 255) ∧ (tb v 0 = true ↔ a = 0)) ↔ (((0 ≤ e ∧ e ≤ f 2 - 1) ∧ (0 ≤ w ∧ w ≤ (if f (62 + 27 * e + 2) = -1 then 0 else 2)) ∧ (0 ≤ a ∧ a ≤ 7)) ∧ (0 ≤ v ∧ v ≤ 255) ∧ (bA v 1 = if a = 0 then 1 else 0)) := by
      have hz : (tb v 0 = true ↔ a = 0) ↔ (bA v 1 = if a = 0 then 1 else 0) := by
        rw [ho]
        by_cases ht : tb v 0 = true <;> by_cases ha : a = 0 <;> simp [ht, ha]
      have hw9 : (0 ≤ w ∧ w < (if p_callee P e = -1 then 1 else 3)) ↔ (0 ≤ w ∧ w ≤ (if f (62 + 27 * e + 2) = -1 then 0 else 2)) := by
        rw [g.2.2.1]
        split <;> omega
      constructor
      · intro hh
        exact ⟨⟨by have := hh.1.1; omega, hw9.mp hh.1.2, by have := hh.2.1; omega⟩, hh.2.2.1, hz.mp hh.2.2.2⟩
      · intro hh
        exact ⟨⟨by have := hh.1.1; omega, hw9.mpr hh.1.2.1⟩, by have := hh.1.2.2; omega, hh.2.1, hz.mpr hh.2.2⟩
    by_cases hc : (((0 ≤ e ∧ e ≤ f 2 - 1) ∧ (0 ≤ w ∧ w ≤ (if f (62 + 27 * e + 2) = -1 then 0 else 2)) ∧ (0 ≤ a ∧ a ≤ 7)) ∧ (0 ≤ v ∧ v ≤ 255) ∧ (bA v 1 = if a = 0 then 1 else 0))
    · rw [if_pos hc, if_pos (hcond.mpr hc)]
      have hw0 := hc.1.2.1.1
      have hw : w ≤ 2 := by
        have h9 := hc.1.2.1.2
        split at h9 <;> omega
      refine ⟨g.2.2.2 w a hw0 (by omega) (by omega) (by omega), ?_, ?_, ?_, ?_, fun k q0 q1 => ?_, fun k q0 q1 => ?_, fun k q0 q1 => ?_⟩
      · show p_procs P = up f _ v 0; rw [up_n _ _ (by omega)]; exact h0
      · show p_nodes P = up f _ v 1; rw [up_n _ _ (by omega)]; exact h1
      · show p_edges P = up f _ v 2; rw [up_n _ _ (by omega)]; exact h2
      · show p_start P = up f _ v 3; rw [up_n _ _ (by omega)]; exact h3
      · have q2 : k < up f (62 + 27 * e + 3 + 8 * w + a) v 0 := q1
        rw [up_n _ _ (by omega)] at q2
        show p_entryOf P k = up f _ v (4 + 2 * k) ∧ p_exitOf P k = up f _ v (4 + 2 * k + 1)
        rw [up_n _ _ (by omega), up_n _ _ (by omega)]; exact h4 k q0 q2
      · have q2 : k < up f (62 + 27 * e + 3 + 8 * w + a) v 1 := q1
        rw [up_n _ _ (by omega)] at q2
        show p_procOf P k = up f _ v (14 + 2 * k) ∧ p_kindOf P k = up f _ v (14 + 2 * k + 1)
        rw [up_n _ _ (by omega), up_n _ _ (by omega)]; exact h5 k q0 q2
      · have q2 : k < up f (62 + 27 * e + 3 + 8 * w + a) v 2 := q1
        rw [up_n _ _ (by omega)] at q2
        have gk := h6 k q0 q2
        show p_from P k = up f _ v (62 + 27 * k + 0) ∧ p_to P k = up f _ v (62 + 27 * k + 1) ∧ p_callee P k = up f _ v (62 + 27 * k + 2) ∧ ∀ w' a' : Int, 0 ≤ w' → w' < 3 → 0 ≤ a' → a' < 8 → byL (up (p_flow P) (e * 3 + w) (setL (p_flow P (e * 3 + w)) a v) (k * 3 + w')) a' = up f (62 + 27 * e + 3 + 8 * w + a) v (62 + 27 * k + 3 + 8 * w' + a')
        rw [up_n _ _ (cell_ne (by omega) (by omega) (by omega)), up_n _ _ (cell_ne (by omega) (by omega) (by omega)), up_n _ _ (cell_ne (by omega) (by omega) (by omega))]
        refine ⟨gk.1, gk.2.1, gk.2.2.1, fun w' a' w0 w1 b0 b1 => ?_⟩
        by_cases hk : k = e ∧ w' = w
        · obtain ⟨rfl, rfl⟩ := hk
          rw [up_s, byL_set _ (by omega) (by omega) (by omega) (by omega) b0 b1]
          by_cases ha : a' = a
          · subst ha; rw [if_pos rfl, up_s]
          · rw [if_neg ha, up_n _ _ (by omega)]; exact gk.2.2.2 w' a' w0 w1 b0 b1
        · have hx : ¬ (62 + 27 * k + 3 + 8 * w' + a' = 62 + 27 * e + 3 + 8 * w + a) := fun hh => hk (by have := cell_eq (by omega) (by omega) (by omega) (by omega) hh; omega)
          rw [up_n _ _ (by omega), up_n _ _ hx]; exact gk.2.2.2 w' a' w0 w1 b0 b1
    · rw [if_neg hc, if_neg (fun hh => hc (hcond.mp hh))]; exact ⟨rfl, h⟩
  · rw [if_neg (fun hh => hr ⟨by have := hh.1.1; omega, by have := hh.2.1; omega, hh.2.2.1⟩), if_neg (fun hh => hr ⟨by have := hh.1.1; omega, hh.1.2.2, hh.2.1⟩)]; exact ⟨rfl, h⟩
theorem nWf_hi {f : Int → Int} {c v : Int} (hN : nOk f) (hw : nWf f) (hc : c = 3 ∨ ∃ e k : Int, 0 ≤ e ∧ 0 ≤ k ∧ k < 24 ∧ c = 62 + 27 * e + 3 + k) : nWf (up f c v) := by
  have n0 := hN.1
  have n1 := hN.2.1
  have n2 := hN.2.2.1
  have un : ∀ j : Int, j < 62 → j ≠ 3 → up f c v j = f j := by
    intro j h1 h2
    refine up_n _ _ ?_
    rcases hc with rfl | ⟨e, k, h3, h4, h5, rfl⟩ <;> omega
  have ue : ∀ e k : Int, 0 ≤ e → 0 ≤ k → k < 3 → up f c v (62 + 27 * e + k) = f (62 + 27 * e + k) := by
    intro e k h1 h2 h3
    refine up_n _ _ ?_
    rcases hc with rfl | ⟨e', k', h3, h4, h5, rfl⟩ <;> omega
  refine ⟨by rw [un 0 (by omega) (by omega)]; exact hw.1, fun q q0 q1 => ?_, fun n m0 m1 => ?_, fun e m0 m1 => ?_⟩
  · rw [un 0 (by omega) (by omega)] at q1
    have x1 := nEnd_q f (4 + 2 * q) hN (by omega)
    have x2 := nEnd_q f (4 + 2 * q + 1) hN (by omega)
    rw [un (4 + 2 * q) (by omega) (by omega), un (4 + 2 * q + 1) (by omega) (by omega), un 1 (by omega) (by omega), un (14 + 2 * f (4 + 2 * q) + 1) (by omega) (by omega), un (14 + 2 * f (4 + 2 * q + 1) + 1) (by omega) (by omega)]
    exact hw.2.1 q q0 q1
  · rw [un 1 (by omega) (by omega)] at m1
    rw [un 0 (by omega) (by omega), un (14 + 2 * n) (by omega) (by omega)]
    exact hw.2.2.1 n m0 m1
  · rw [un 2 (by omega) (by omega)] at m1
    have x1 := nEdge_q f e 1 hN (by omega) (by omega)
    rw [ue e 0 m0 (by omega) (by omega), ue e 1 m0 (by omega) (by omega), ue e 2 m0 (by omega) (by omega), un 0 (by omega) (by omega), un 1 (by omega) (by omega), un (14 + 2 * f (62 + 27 * e + 1) + 1) (by omega) (by omega)]
    exact hw.2.2.2 e m0 m1
theorem nWf_setFlow {f : Int → Int} {e w a v : Int} (hN : nOk f) (hw : nWf f) : nWf (nSetFlow f e w a v).2 := by
  unfold nSetFlow
  by_cases hc : (((0 ≤ e ∧ e ≤ f 2 - 1) ∧ (0 ≤ w ∧ w ≤ (if f (62 + 27 * e + 2) = -1 then 0 else 2)) ∧ (0 ≤ a ∧ a ≤ 7)) ∧ (0 ≤ v ∧ v ≤ 255) ∧ (bA v 1 = if a = 0 then 1 else 0))
  · rw [if_pos hc]
    have hw0 := hc.1.2.1.1
    have hw2 : w ≤ 2 := by
      have h9 := hc.1.2.1.2
      split at h9 <;> omega
    have := hc.1.1
    have := hc.1.2.2
    exact nWf_hi hN hw (Or.inr ⟨e, 8 * w + a, by omega, by omega, by omega, by omega⟩)
  · rw [if_neg hc]; exact hw
theorem pR_setStart {P : Pg} {f : Int → Int} {v : Int} (hN : nOk f) (h : pR P f) : (pSetStart P v).1 = (nSetStart f v).1 ∧ pR (pSetStart P v).2 (nSetStart f v).2 := by
  obtain ⟨h0, h1, h2, h3, h4, h5, h6⟩ := id h
  have n0 := hN.1
  have n1 := hN.2.1
  have n2 := hN.2.2.1
  unfold pSetStart nSetStart
  by_cases hv : 0 ≤ v ∧ v ≤ 255
  · have ho := tb_odd (a := v) hv.1
    by_cases ht : tb v 0 = true
    · rw [if_pos ht] at ho
      rw [if_pos ⟨hv, ht⟩, if_pos ⟨hv, by omega⟩]
      refine ⟨h3, ?_, ?_, ?_, ?_, fun k q0 q1 => ?_, fun k q0 q1 => ?_, fun k q0 q1 => ?_⟩
      · show p_procs P = up f 3 v 0; rw [up_n _ _ (by omega)]; exact h0
      · show p_nodes P = up f 3 v 1; rw [up_n _ _ (by omega)]; exact h1
      · show p_edges P = up f 3 v 2; rw [up_n _ _ (by omega)]; exact h2
      · show v = up f 3 v 3; rw [up_s]
      · have q2 : k < up f 3 v 0 := q1
        rw [up_n _ _ (by omega)] at q2
        show p_entryOf P k = up f 3 v (4 + 2 * k) ∧ p_exitOf P k = up f 3 v (4 + 2 * k + 1)
        rw [up_n _ _ (by omega), up_n _ _ (by omega)]; exact h4 k q0 q2
      · have q2 : k < up f 3 v 1 := q1
        rw [up_n _ _ (by omega)] at q2
        show p_procOf P k = up f 3 v (14 + 2 * k) ∧ p_kindOf P k = up f 3 v (14 + 2 * k + 1)
        rw [up_n _ _ (by omega), up_n _ _ (by omega)]; exact h5 k q0 q2
      · have q2 : k < up f 3 v 2 := q1
        rw [up_n _ _ (by omega)] at q2
        have gk := h6 k q0 q2
        show p_from P k = up f 3 v (62 + 27 * k + 0) ∧ p_to P k = up f 3 v (62 + 27 * k + 1) ∧ p_callee P k = up f 3 v (62 + 27 * k + 2) ∧ ∀ w' a' : Int, 0 ≤ w' → w' < 3 → 0 ≤ a' → a' < 8 → pReach P k w' a' = up f 3 v (62 + 27 * k + 3 + 8 * w' + a')
        rw [up_n _ _ (by omega), up_n _ _ (by omega), up_n _ _ (by omega)]
        refine ⟨gk.1, gk.2.1, gk.2.2.1, fun w' a' w0 w1 b0 b1 => ?_⟩
        rw [up_n _ _ (by omega)]; exact gk.2.2.2 w' a' w0 w1 b0 b1
    · rw [if_neg ht] at ho
      rw [if_neg (fun hh => ht hh.2), if_neg (fun hh => hh.2 ho)]; exact ⟨rfl, h⟩
  · rw [if_neg (fun hh => hv hh.1), if_neg (fun hh => hv hh.1)]; exact ⟨rfl, h⟩
theorem nWf_setStart {f : Int → Int} {v : Int} (hN : nOk f) (hw : nWf f) : nWf (nSetStart f v).2 := by
  unfold nSetStart
  split
  · exact nWf_hi hN hw (Or.inl rfl)
  · exact hw

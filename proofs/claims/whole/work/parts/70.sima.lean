/-! SIMULATION: the class's program and the reference's row of numbers -/
def pR (P : Pg) (f : Int → Int) : Prop := p_procs P = f 0 ∧ p_nodes P = f 1 ∧ p_edges P = f 2 ∧ p_start P = f 3 ∧ (∀ q : Int, 0 ≤ q → q < f 0 → p_entryOf P q = f (4 + 2 * q) ∧ p_exitOf P q = f (4 + 2 * q + 1)) ∧ (∀ n : Int, 0 ≤ n → n < f 1 → p_procOf P n = f (14 + 2 * n) ∧ p_kindOf P n = f (14 + 2 * n + 1)) ∧ (∀ e : Int, 0 ≤ e → e < f 2 → p_from P e = f (62 + 27 * e + 0) ∧ p_to P e = f (62 + 27 * e + 1) ∧ p_callee P e = f (62 + 27 * e + 2) ∧ ∀ w a : Int, 0 ≤ w → w < 3 → 0 ≤ a → a < 8 → pReach P e w a = f (62 + 27 * e + 3 + 8 * w + a))
theorem cpI_i {α : Type} {f h : Int → α} {n j : Int} (h0 : 0 ≤ j) (h1 : j < n) : cpI f h n j = f j := if_pos ⟨h0, h1⟩
theorem pR_copy {P P1 : Pg} {f : Int → Int} (h : pR P f) : pR (pCopy P P1) f := by
  obtain ⟨h0, h1, h2, h3, h4, h5, h6⟩ := h
  refine ⟨h0, h1, h2, h3, fun q q0 q1 => ?_, fun n n0 n1 => ?_, fun e e0 e1 => ?_⟩
  · have := h4 q q0 q1
    exact ⟨(cpI_i q0 (by omega)).trans this.1, (cpI_i q0 (by omega)).trans this.2⟩
  · have := h5 n n0 n1
    exact ⟨(cpI_i n0 (by omega)).trans this.1, (cpI_i n0 (by omega)).trans this.2⟩
  · have := h6 e e0 e1
    refine ⟨(cpI_i e0 (by omega)).trans this.1, (cpI_i e0 (by omega)).trans this.2.1, (cpI_i e0 (by omega)).trans this.2.2.1, fun w a w0 w1 a0 a1 => ?_⟩
    have e3 : p_flow (pCopy P P1) (e * 3 + w) = p_flow P (e * 3 + w) := cpI_i (by omega) (by omega)
    unfold pReach
    rw [e3]
    exact this.2.2.2 w a w0 w1 a0 a1
/-! a new PROC -/
theorem nNode_at (f : Int → Int) (p s : Int) (h : 0 ≤ f 1) (c : Int) : nNode f p s c = if c = 1 then f 1 + 1 else if c = 14 + 2 * f 1 + 1 then s else if c = 14 + 2 * f 1 then p else f c := by
  unfold nNode
  rw [up_a]
  by_cases h1 : c = 1
  · rw [if_pos h1, if_pos h1, up_n _ _ (by omega), up_n _ _ (by omega)]
  · rw [if_neg h1, if_neg h1, up_a, up_a]
theorem nAddProc_at (f : Int → Int) (h0 : 0 ≤ f 0) (h1 : 0 ≤ f 1) (h5 : f 0 < 5) (c : Int) : up (nP2 f) 0 (nP2 f 0 + 1) c = if c = 0 then f 0 + 1 else if c = 1 then f 1 + 2 else if c = 4 + 2 * f 0 then f 1 else if c = 4 + 2 * f 0 + 1 then f 1 + 1 else if c = 14 + 2 * f 1 then f 0 else if c = 14 + 2 * f 1 + 1 then 0 else if c = 14 + 2 * (f 1 + 1) then f 0 else if c = 14 + 2 * (f 1 + 1) + 1 then 1 else f c := by
  have a1 : ∀ c, nP1 f c = if c = 4 + 2 * f 0 then f 1 else if c = 1 then f 1 + 1 else if c = 14 + 2 * f 1 + 1 then 0 else if c = 14 + 2 * f 1 then f 0 else f c := by
    intro c
    unfold nP1
    rw [up_a, nNode_at f _ _ h1]
  have a11 := nP1_1 f h1 h0
  have a2 : ∀ c, nP2 f c = if c = 4 + 2 * f 0 + 1 then f 1 + 1 else if c = 1 then f 1 + 1 + 1 else if c = 14 + 2 * (f 1 + 1) + 1 then 1 else if c = 14 + 2 * (f 1 + 1) then f 0 else nP1 f c := by
    intro c
    unfold nP2
    rw [up_a, nNode_at (nP1 f) _ _ (by omega), a11]
  rw [up_a, a2, a2, a1, a1]
  (repeat' split) <;> omega
theorem nAP_f {f F : Int → Int} (hN : nOk f) (hc : ¬ (f 0 = 5 ∨ 24 < f 1 + 2)) (at_ : (∀ c : Int, F c = if c = 0 then f 0 + 1 else if c = 1 then f 1 + 2 else if c = 4 + 2 * f 0 then f 1 else if c = 4 + 2 * f 0 + 1 then f 1 + 1 else if c = 14 + 2 * f 1 then f 0 else if c = 14 + 2 * f 1 + 1 then 0 else if c = 14 + 2 * (f 1 + 1) then f 0 else if c = 14 + 2 * (f 1 + 1) + 1 then 1 else f c)) : (F 0 = f 0 + 1 ∧ F 1 = f 1 + 2 ∧ F 2 = f 2 ∧ F 3 = f 3) ∧ (∀ c : Int, 62 ≤ c → F c = f c) ∧ (∀ n : Int, 0 ≤ n → n < f 1 → F (14 + 2 * n) = f (14 + 2 * n) ∧ F (14 + 2 * n + 1) = f (14 + 2 * n + 1)) ∧ (∀ q : Int, 0 ≤ q → q < f 0 → F (4 + 2 * q) = f (4 + 2 * q) ∧ F (4 + 2 * q + 1) = f (4 + 2 * q + 1)) ∧ (F (4 + 2 * f 0) = f 1 ∧ F (4 + 2 * f 0 + 1) = f 1 + 1) ∧ (F (14 + 2 * f 1) = f 0 ∧ F (14 + 2 * f 1 + 1) = 0 ∧ F (14 + 2 * (f 1 + 1)) = f 0 ∧ F (14 + 2 * (f 1 + 1) + 1) = 1) := by
  have n0 := hN.1
  have n1 := hN.2.1
  refine ⟨⟨?_, ?_, ?_, ?_⟩, fun c hc => ?_, fun n m0 m1 => ⟨?_, ?_⟩, fun q m0 m1 => ⟨?_, ?_⟩, ⟨?_, ?_⟩, ⟨?_, ?_, ?_, ?_⟩⟩ <;> rw [at_] <;> ((repeat' split) <;> omega)
theorem pR_addProc {P : Pg} {f : Int → Int} (hN : nOk f) (h : pR P f) : (pAddProc P).1 = (nAddProc f).1 ∧ pR (pAddProc P).2 (nAddProc f).2 := by
  obtain ⟨h0, h1, h2, h3, h4, h5, h6⟩ := id h
  have n0 := hN.1
  have n1 := hN.2.1
  have n2 := hN.2.2.1
  unfold pAddProc nAddProc
  by_cases hc : f 0 = 5 ∨ 24 < f 1 + 2
  · rw [if_pos hc, if_pos (by omega)]; exact ⟨rfl, h⟩
  · rw [if_neg hc, if_neg (by omega)]
    have at_ := nAddProc_at f n0.1 n1.1 (by omega)
    generalize up (nP2 f) 0 (nP2 f 0 + 1) = F at at_
    obtain ⟨⟨e0, e1, e2, e3⟩, big, nd, en, p1, p2'⟩ := nAP_f hN hc at_
    refine ⟨h0, ?_, ?_, ?_, ?_, fun q q0 q1 => ?_, fun n q0 q1 => ?_, fun e q0 q1 => ?_⟩
    · show p_procs P + 1 = F 0; omega
    · show p_nodes P + 1 + 1 = F 1; omega
    · show p_edges P = F 2; omega
    · show p_start P = F 3; omega
    · have q2 : q < F 0 := q1
      show up (p_entryOf P) (p_procs P) (p_nodes P) q = F (4 + 2 * q) ∧ up (p_exitOf P) (p_procs P) (p_nodes P + 1) q = F (4 + 2 * q + 1)
      by_cases hq : q = f 0
      · subst hq
        rw [p1.1, p1.2, up_a, up_a, if_pos (by omega), if_pos (by omega)]; omega
      · have := h4 q q0 (by omega)
        have hE := en q q0 (by omega)
        rw [up_n _ _ (by omega), up_n _ _ (by omega)]; omega
    · have q2 : n < F 1 := q1
      show up (up (p_procOf P) (p_nodes P) (p_procs P)) (p_nodes P + 1) (p_procs P) n = F (14 + 2 * n) ∧ up (up (p_kindOf P) (p_nodes P) 0) (p_nodes P + 1) 1 n = F (14 + 2 * n + 1)
      by_cases hn : n < f 1
      · have := h5 n q0 hn
        have hE := nd n q0 hn
        rw [up_n _ _ (by omega), up_n _ _ (by omega), up_n _ _ (by omega), up_n _ _ (by omega)]; omega
      · have : n = f 1 ∨ n = f 1 + 1 := by omega
        rcases this with rfl | rfl
        · rw [up_n _ _ (by omega), up_a, if_pos (by omega), up_n _ _ (by omega), up_a, if_pos (by omega)]; omega
        · rw [up_a, if_pos (by omega), up_a, if_pos (by omega)]; omega
    · have q2 : e < F 2 := q1
      have := h6 e q0 (by omega)
      show p_from P e = F (62 + 27 * e + 0) ∧ p_to P e = F (62 + 27 * e + 1) ∧ p_callee P e = F (62 + 27 * e + 2) ∧ ∀ w a : Int, 0 ≤ w → w < 3 → 0 ≤ a → a < 8 → pReach P e w a = F (62 + 27 * e + 3 + 8 * w + a)
      rw [big _ (by omega), big _ (by omega), big _ (by omega)]
      refine ⟨this.1, this.2.1, this.2.2.1, fun w a w0 w1 a0 a1 => ?_⟩
      rw [big _ (by omega)]
      exact this.2.2.2 w a w0 w1 a0 a1
theorem nWf_addProc {f : Int → Int} (hN : nOk f) (hw : 1 ≤ f 0 → nWf f) (hz : f 0 = 0 → f 2 = 0 ∧ f 1 = 0) : nWf (nAddProc f).2 ∨ (nAddProc f).1 = -4 ∧ (nAddProc f).2 = f := by
  have n0 := hN.1
  have n1 := hN.2.1
  have n2 := hN.2.2.1
  unfold nAddProc
  by_cases hc : f 0 = 5 ∨ 24 < f 1 + 2
  · rw [if_pos hc]; exact Or.inr ⟨rfl, rfl⟩
  · rw [if_neg hc]
    refine Or.inl ?_
    show nWf (up (nP2 f) 0 (nP2 f 0 + 1))
    have at_ := nAddProc_at f n0.1 n1.1 (by omega)
    generalize up (nP2 f) 0 (nP2 f 0 + 1) = F at at_ ⊢
    obtain ⟨⟨e0, e1, e2, e3⟩, big, nd, en, p1, p2'⟩ := nAP_f hN hc at_
    refine ⟨by rw [e0]; omega, fun q q0 q1 => ?_, fun n m0 m1 => ?_, fun e m0 m1 => ?_⟩
    · rw [e0] at q1
      rw [e1]
      by_cases hq : q = f 0
      · subst hq
        rw [p1.1, p1.2, p2'.2.1, p2'.2.2.2]; omega
      · have w := (hw (by omega)).2.1 q q0 (by omega)
        have x1 := nEnd_q f (4 + 2 * q) hN (by omega)
        have x2 := nEnd_q f (4 + 2 * q + 1) hN (by omega)
        rw [(en q q0 (by omega)).1, (en q q0 (by omega)).2, (nd _ x1.1 w.1).2, (nd _ x2.1 w.2.1).2]
        exact ⟨by omega, by omega, w.2.2.1, w.2.2.2⟩
    · rw [e1] at m1
      rw [e0]
      by_cases h1 : n < f 1
      · rw [(nd n m0 h1).1]
        by_cases hf : 1 ≤ f 0
        · have := (hw hf).2.2.1 n m0 h1; omega
        · have := hz (by omega); omega
      · have : n = f 1 ∨ n = f 1 + 1 := by omega
        rcases this with rfl | rfl
        · rw [p2'.1]; omega
        · rw [p2'.2.2.1]; omega
    · rw [e2] at m1
      have hf : 1 ≤ f 0 := by
        by_cases hf : 1 ≤ f 0
        · exact hf
        · have := hz (by omega); omega
      have w := (hw hf).2.2.2 e m0 m1
      have x1 := nEdge_q f e 1 hN (by omega) (by omega)
      rw [big (62 + 27 * e + 0) (by omega), big (62 + 27 * e + 1) (by omega), big (62 + 27 * e + 2) (by omega), (nd _ (by omega) w.2.1).2, e0, e1]
      exact ⟨by omega, by omega, w.2.2.1, by omega⟩

/-! SIMULATION: an EDGE goes; ORDERS -/
theorem it_shift {α : Type} {d : Int} (hd : 0 < d) (n : Nat) : ∀ (i : Int) (f : Int → α) (j : Int), it (fun c (f : Int → α) => up f c (f (c + d))) n i f j = if i ≤ j ∧ j < i + n then f (j + d) else f j := by
  induction n with
  | zero => intro i f j; rw [it_0, if_neg (by omega)]
  | succ n ih =>
    intro i f j
    rw [it_s, ih]
    by_cases h : i + 1 ≤ j ∧ j < i + 1 + n
    · rw [if_pos h, if_pos (by omega), up_n _ _ (by omega)]
    · rw [if_neg h]
      by_cases hj : j = i
      · rw [hj, up_s, if_pos (by omega)]
      · rw [up_n _ _ hj, if_neg (by omega)]
theorem nShift_at {f : Int → Int} {e : Int} (he : 0 ≤ e ∧ e < 32) (c : Int) : nShift f e c = if 62 + 27 * e ≤ c ∧ c < 899 then f (c + 27) else f c := by
  unfold nShift
  rw [it_shift (by omega)]
  by_cases h : 62 + 27 * e ≤ c ∧ c < 899
  · rw [if_pos h, if_pos (by omega)]
  · rw [if_neg h, if_neg (by omega)]
theorem nCut_at {f : Int → Int} {e : Int} (he : 0 ≤ e ∧ e < 32) (c : Int) : up (nShift f e) 2 (nShift f e 2 - 1) c = if c = 2 then f 2 - 1 else if 62 + 27 * e ≤ c ∧ c < 899 then f (c + 27) else f c := by
  rw [up_a, nShift_at he, nShift_at he, if_neg (show ¬ (62 + 27 * e ≤ 2 ∧ (2 : Int) < 899) by omega)]
theorem pCutF_at (i : Int) (f : Int → Int64) (j : Int) : pCutF i f j = if i * 3 ≤ j ∧ j < i * 3 + 3 then f (j + 3) else f j := by
  unfold pCutF
  rw [show it (fun w (f : Int → Int64) => up f (i * 3 + w) (f ((i + 1) * 3 + w))) 3 0 f = up (up (up f (i * 3 + 0) (f ((i + 1) * 3 + 0))) (i * 3 + (0 + 1)) (up f (i * 3 + 0) (f ((i + 1) * 3 + 0)) ((i + 1) * 3 + (0 + 1)))) (i * 3 + (0 + 1 + 1)) (up (up f (i * 3 + 0) (f ((i + 1) * 3 + 0))) (i * 3 + (0 + 1)) (up f (i * 3 + 0) (f ((i + 1) * 3 + 0)) ((i + 1) * 3 + (0 + 1))) ((i + 1) * 3 + (0 + 1 + 1))) from rfl]
  rw [up_n (up f (i * 3 + 0) (f ((i + 1) * 3 + 0))) _ (show (i + 1) * 3 + (0 + 1 + 1) ≠ i * 3 + (0 + 1) by omega), up_n f _ (show (i + 1) * 3 + (0 + 1 + 1) ≠ i * 3 + 0 by omega), up_n f _ (show (i + 1) * 3 + (0 + 1) ≠ i * 3 + 0 by omega), up_a, up_a, up_a]
  by_cases h1 : j = i * 3 + (0 + 1 + 1)
  · rw [if_pos h1, if_pos (by omega)]; congr 1; omega
  · rw [if_neg h1]
    by_cases h2 : j = i * 3 + (0 + 1)
    · rw [if_pos h2, if_pos (by omega)]; congr 1; omega
    · rw [if_neg h2]
      by_cases h3 : j = i * 3 + 0
      · rw [if_pos h3, if_pos (by omega)]; congr 1; omega
      · rw [if_neg h3, if_neg (by omega)]
theorem pCut_at (n : Nat) : ∀ (i : Int) (P : Pg), (p_procs (it pCut1 n i P) = p_procs P ∧ p_nodes (it pCut1 n i P) = p_nodes P ∧ p_edges (it pCut1 n i P) = p_edges P ∧ p_start (it pCut1 n i P) = p_start P ∧ p_entryOf (it pCut1 n i P) = p_entryOf P ∧ p_exitOf (it pCut1 n i P) = p_exitOf P ∧ p_procOf (it pCut1 n i P) = p_procOf P ∧ p_kindOf (it pCut1 n i P) = p_kindOf P) ∧ (∀ j : Int, p_from (it pCut1 n i P) j = if i ≤ j ∧ j < i + n then p_from P (j + 1) else p_from P j) ∧ (∀ j : Int, p_to (it pCut1 n i P) j = if i ≤ j ∧ j < i + n then p_to P (j + 1) else p_to P j) ∧ (∀ j : Int, p_callee (it pCut1 n i P) j = if i ≤ j ∧ j < i + n then p_callee P (j + 1) else p_callee P j) ∧ (∀ j : Int, p_flow (it pCut1 n i P) j = if i * 3 ≤ j ∧ j < i * 3 + n * 3 then p_flow P (j + 3) else p_flow P j) := by
  induction n with
  | zero =>
    intro i P
    refine ⟨⟨rfl, rfl, rfl, rfl, rfl, rfl, rfl, rfl⟩, fun j => ?_, fun j => ?_, fun j => ?_, fun j => ?_⟩ <;> rw [it_0, if_neg (by omega)]
  | succ n ih =>
    intro i P
    obtain ⟨a, b, c, d, e⟩ := ih (i + 1) (pCut1 i P)
    have f1 : ∀ j, p_from (pCut1 i P) j = up (p_from P) i (p_from P (i + 1)) j := fun _ => rfl
    have f2 : ∀ j, p_to (pCut1 i P) j = up (p_to P) i (p_to P (i + 1)) j := fun _ => rfl
    have f3 : ∀ j, p_callee (pCut1 i P) j = up (p_callee P) i (p_callee P (i + 1)) j := fun _ => rfl
    have f4 : ∀ j, p_flow (pCut1 i P) j = pCutF i (p_flow P) j := fun _ => rfl
    refine ⟨a, fun j => ?_, fun j => ?_, fun j => ?_, fun j => ?_⟩
    · rw [it_s, b, f1, f1]
      by_cases h : i + 1 ≤ j ∧ j < i + 1 + n
      · rw [if_pos h, if_pos (by omega), up_n _ _ (by omega)]
      · rw [if_neg h]
        by_cases hj : j = i
        · rw [hj, up_s, if_pos (by omega)]
        · rw [up_n _ _ hj, if_neg (by omega)]
    · rw [it_s, c, f2, f2]
      by_cases h : i + 1 ≤ j ∧ j < i + 1 + n
      · rw [if_pos h, if_pos (by omega), up_n _ _ (by omega)]
      · rw [if_neg h]
        by_cases hj : j = i
        · rw [hj, up_s, if_pos (by omega)]
        · rw [up_n _ _ hj, if_neg (by omega)]
    · rw [it_s, d, f3, f3]
      by_cases h : i + 1 ≤ j ∧ j < i + 1 + n
      · rw [if_pos h, if_pos (by omega), up_n _ _ (by omega)]
      · rw [if_neg h]
        by_cases hj : j = i
        · rw [hj, up_s, if_pos (by omega)]
        · rw [up_n _ _ hj, if_neg (by omega)]
    · rw [it_s, e, f4, f4, pCutF_at, pCutF_at]
      by_cases h : (i + 1) * 3 ≤ j ∧ j < (i + 1) * 3 + n * 3
      · rw [if_pos h, if_neg (by omega), if_pos (by omega)]
      · rw [if_neg h]
        by_cases hj : i * 3 ≤ j ∧ j < i * 3 + 3
        · rw [if_pos hj, if_pos (by omega)]
        · rw [if_neg hj, if_neg (by omega)]
theorem pR_cut {P : Pg} {f : Int → Int} {e : Int} (hN : nOk f) (h : pR P f) : (pCut P e).1 = (nCut f e).1 ∧ pR (pCut P e).2 (nCut f e).2 := by
  obtain ⟨h0, h1, h2, h3, h4, h5, h6⟩ := id h
  have n0 := hN.1
  have n1 := hN.2.1
  have n2 := hN.2.2.1
  unfold pCut nCut
  by_cases hc : 0 ≤ e ∧ e ≤ f 2 - 1
  · rw [if_pos hc, if_pos (by omega)]
    have at_ := nCut_at (f := f) (e := e) (by omega)
    generalize up (nShift f e) 2 (nShift f e 2 - 1) = F at at_
    have e2 : F 2 = f 2 - 1 := by rw [at_, if_pos rfl]
    have lo : ∀ c : Int, c < 62 → c ≠ 2 → F c = f c := fun c c0 c1 => by rw [at_, if_neg c1, if_neg (by omega)]
    have e0 := lo 0 (by omega) (by omega)
    have e1 := lo 1 (by omega) (by omega)
    have e3 := lo 3 (by omega) (by omega)
    obtain ⟨⟨a1, a2, a3, a4, a5, a6, a7, a8⟩, b1, b2, b3, b4⟩ := pCut_at (p_edges P - 1 - e).toNat e (ps_edges P (p_edges P - 1))
    refine ⟨?_, ?_, ?_, ?_, ?_, fun k q0 q1 => ?_, fun k q0 q1 => ?_, fun k q0 q1 => ?_⟩
    · show p_edges P - 1 = F 2; omega
    · exact a1.trans (by show p_procs P = F 0; omega)
    · exact a2.trans (by show p_nodes P = F 1; omega)
    · exact a3.trans (by show p_edges P - 1 = F 2; omega)
    · exact a4.trans (by show p_start P = F 3; omega)
    · have q2 : k < F 0 := q1
      show p_entryOf _ k = F (4 + 2 * k) ∧ p_exitOf _ k = F (4 + 2 * k + 1)
      rw [a5, a6, lo (4 + 2 * k) (by omega) (by omega), lo (4 + 2 * k + 1) (by omega) (by omega)]
      exact h4 k q0 (by omega)
    · have q2 : k < F 1 := q1
      show p_procOf _ k = F (14 + 2 * k) ∧ p_kindOf _ k = F (14 + 2 * k + 1)
      rw [a7, a8, lo (14 + 2 * k) (by omega) (by omega), lo (14 + 2 * k + 1) (by omega) (by omega)]
      exact h5 k q0 (by omega)
    · have q2 : k < F 2 := q1
      show p_from _ k = F (62 + 27 * k + 0) ∧ p_to _ k = F (62 + 27 * k + 1) ∧ p_callee _ k = F (62 + 27 * k + 2) ∧ ∀ w a : Int, 0 ≤ w → w < 3 → 0 ≤ a → a < 8 → byL (p_flow _ (k * 3 + w)) a = F (62 + 27 * k + 3 + 8 * w + a)
      rw [b1, b2, b3]
      by_cases hk : e ≤ k
      · have g := h6 (k + 1) (by omega) (by omega)
        have sh : ∀ c : Int, 62 + 27 * k ≤ c → c < 899 → F c = f (c + 27) := fun c c0 c1 => by rw [at_, if_neg (by omega), if_pos (by omega)]
        rw [if_pos (by omega), if_pos (by omega), if_pos (by omega), sh (62 + 27 * k + 0) (by omega) (by omega), sh (62 + 27 * k + 1) (by omega) (by omega), sh (62 + 27 * k + 2) (by omega) (by omega)]
        refine ⟨g.1.trans (congrArg f (by omega)), g.2.1.trans (congrArg f (by omega)), g.2.2.1.trans (congrArg f (by omega)), fun w a w0 w1 a0 a1 => ?_⟩
        rw [b4, if_pos (by omega), sh _ (by omega) (by omega)]
        have := g.2.2.2 w a w0 w1 a0 a1
        unfold pReach at this
        rw [show k * 3 + w + 3 = (k + 1) * 3 + w by omega]
        exact this.trans (congrArg f (by omega))
      · have g := h6 k q0 (by omega)
        have sh : ∀ c : Int, 62 ≤ c → c < 62 + 27 * e → F c = f c := fun c c0 c1 => by rw [at_, if_neg (by omega), if_neg (by omega)]
        rw [if_neg (by omega), if_neg (by omega), if_neg (by omega), sh (62 + 27 * k + 0) (by omega) (by omega), sh (62 + 27 * k + 1) (by omega) (by omega), sh (62 + 27 * k + 2) (by omega) (by omega)]
        refine ⟨g.1, g.2.1, g.2.2.1, fun w a w0 w1 a0 a1 => ?_⟩
        rw [b4, if_neg (by omega), sh _ (by omega) (by omega)]
        exact g.2.2.2 w a w0 w1 a0 a1
  · rw [if_neg hc, if_neg (by omega)]; exact ⟨rfl, h⟩
theorem nWf_cut {f : Int → Int} {e : Int} (hN : nOk f) (hw : nWf f) : nWf (nCut f e).2 := by
  have n0 := hN.1
  have n1 := hN.2.1
  have n2 := hN.2.2.1
  unfold nCut
  by_cases hc : 0 ≤ e ∧ e ≤ f 2 - 1
  · rw [if_pos hc]
    show nWf (up (nShift f e) 2 (nShift f e 2 - 1))
    have at_ := nCut_at (f := f) (e := e) (by omega)
    generalize up (nShift f e) 2 (nShift f e 2 - 1) = F at at_ ⊢
    have e2 : F 2 = f 2 - 1 := by rw [at_, if_pos rfl]
    have lo : ∀ c : Int, c < 62 → c ≠ 2 → F c = f c := fun c c0 c1 => by rw [at_, if_neg c1, if_neg (by omega)]
    have e0 := lo 0 (by omega) (by omega)
    have e1 := lo 1 (by omega) (by omega)
    refine ⟨by rw [e0]; exact hw.1, fun k q0 q1 => ?_, fun k m0 m1 => ?_, fun k m0 m1 => ?_⟩
    · rw [e0] at q1
      have x1 := nEnd_q f (4 + 2 * k) hN (by omega)
      have x2 := nEnd_q f (4 + 2 * k + 1) hN (by omega)
      rw [e1, lo (4 + 2 * k) (by omega) (by omega), lo (4 + 2 * k + 1) (by omega) (by omega), lo (14 + 2 * f (4 + 2 * k) + 1) (by omega) (by omega), lo (14 + 2 * f (4 + 2 * k + 1) + 1) (by omega) (by omega)]
      exact hw.2.1 k q0 q1
    · rw [e1] at m1
      rw [e0, lo (14 + 2 * k) (by omega) (by omega)]
      exact hw.2.2.1 k m0 m1
    · rw [e2] at m1
      by_cases hk : e ≤ k
      · have w := hw.2.2.2 (k + 1) (by omega) (by omega)
        have x1 := nEdge_q f (k + 1) 1 hN (by omega) (by omega)
        have sh : ∀ c : Int, 62 + 27 * k ≤ c → c < 899 → F c = f (c + 27) := fun c c0 c1 => by rw [at_, if_neg (by omega), if_pos (by omega)]
        rw [sh (62 + 27 * k + 0) (by omega) (by omega), sh (62 + 27 * k + 1) (by omega) (by omega), sh (62 + 27 * k + 2) (by omega) (by omega), show 62 + 27 * k + 0 + 27 = 62 + 27 * (k + 1) + 0 by omega, show 62 + 27 * k + 1 + 27 = 62 + 27 * (k + 1) + 1 by omega, show 62 + 27 * k + 2 + 27 = 62 + 27 * (k + 1) + 2 by omega, lo (14 + 2 * f (62 + 27 * (k + 1) + 1) + 1) (by omega) (by omega), e0, e1]
        exact w
      · have w := hw.2.2.2 k m0 (by omega)
        have x1 := nEdge_q f k 1 hN (by omega) (by omega)
        have sh : ∀ c : Int, 62 ≤ c → c < 62 + 27 * e → F c = f c := fun c c0 c1 => by rw [at_, if_neg (by omega), if_neg (by omega)]
        rw [sh (62 + 27 * k + 0) (by omega) (by omega), sh (62 + 27 * k + 1) (by omega) (by omega), sh (62 + 27 * k + 2) (by omega) (by omega), lo (14 + 2 * f (62 + 27 * k + 1) + 1) (by omega) (by omega), e0, e1]
        exact w
  · rw [if_neg hc]; exact hw
/-! ORDERS that were read alike do alike -/
def oR (X : Tx) (O : Int → Int) (k : Int) : Prop := x_parts X (k * 5 + 0) = O (5 * k) ∧ xBehind (O (5 * k)) ≠ -1 ∧ ∀ j : Int, 1 ≤ j → j ≤ xBehind (O (5 * k)) → x_parts X (k * 5 + j) = O (5 * k + j)
theorem nWf_ap {f : Int → Int} (hN : nOk f) (hw : nWf f) : nWf (nAddProc f).2 := by
  rcases nWf_addProc hN (fun _ => hw) (fun h => absurd h (by have := hw.1; omega)) with h | ⟨_, h⟩
  · exact h
  · rw [h]; exact hw
theorem pR_obey {X : Tx} {O : Int → Int} {D : Pg} {f : Int → Int} {k : Int} (hN : nOk f) (h : pR D f) (ho : oR X O k) : (fObey X k D).1 = (nActed f O k).1 ∧ pR (fObey X k D).2 (nActed f O k).2 := by
  obtain ⟨o1, o2, o3⟩ := ho
  unfold fObey nActed
  rw [o1]
  by_cases c1 : O (5 * k) = 112
  · rw [if_pos c1, if_pos c1]; exact pR_addProc hN h
  · rw [if_neg c1, if_neg c1]
    by_cases c2 : O (5 * k) = 110
    · have hb : xBehind (O (5 * k)) = 1 := by rw [c2]; rfl
      rw [if_pos c2, if_pos c2, o3 1 (by omega) (by omega)]; exact pR_addNode hN h
    · rw [if_neg c2, if_neg c2]
      by_cases c3 : O (5 * k) = 101
      · have hb : xBehind (O (5 * k)) = 2 := by rw [c3]; rfl
        rw [if_pos c3, if_pos c3, o3 1 (by omega) (by omega), o3 2 (by omega) (by omega)]; exact pR_addPlain hN h
      · rw [if_neg c3, if_neg c3]
        by_cases c4 : O (5 * k) = 99
        · have hb : xBehind (O (5 * k)) = 3 := by rw [c4]; rfl
          rw [if_pos c4, if_pos c4, o3 1 (by omega) (by omega), o3 2 (by omega) (by omega), o3 3 (by omega) (by omega)]; exact pR_addCall hN h
        · rw [if_neg c4, if_neg c4]
          by_cases c5 : O (5 * k) = 102
          · have hb : xBehind (O (5 * k)) = 4 := by rw [c5]; rfl
            rw [if_pos c5, if_pos c5, o3 1 (by omega) (by omega), o3 2 (by omega) (by omega), o3 3 (by omega) (by omega), o3 4 (by omega) (by omega)]; exact pR_setFlow hN h
          · rw [if_neg c5, if_neg c5]
            have hb : 1 ≤ xBehind (O (5 * k)) := by
              unfold xBehind at o2 ⊢
              rw [if_neg c1] at o2 ⊢
              (repeat' split) <;> simp_all <;> omega
            rw [o3 1 (by omega) hb]
            by_cases c6 : O (5 * k) = 115
            · rw [if_pos c6, if_pos c6]; exact pR_setStart hN h
            · rw [if_neg c6, if_neg c6]; exact pR_cut hN h
theorem nWf_acted {f O : Int → Int} {k : Int} (hN : nOk f) (hw : nWf f) : nWf (nActed f O k).2 := by
  unfold nActed
  (repeat' split) <;> first | exact nWf_ap hN hw | exact nWf_addAny hN hw | exact nWf_addEdge hN hw | exact nWf_addCall hN hw | exact nWf_setFlow hN hw | exact nWf_setStart hN hw | exact nWf_cut hN hw
theorem pR_doL {X : Tx} {O : Int → Int} (n : Nat) : ∀ (k : Int) (D : Pg) (f : Int → Int), nOk f → nWf f → pR D f → (∀ j : Int, k ≤ j → j < k + n → oR X O j) → (fDoL X n k D).1 = (nDoL O n k f).1 ∧ (fDoL X n k D).2.1 = (nDoL O n k f).2.1 ∧ ((nDoL O n k f).1 = true → pR (fDoL X n k D).2.2 (nDoL O n k f).2.2) ∧ nWf (nDoL O n k f).2.2 := by
  induction n with
  | zero => intro k D f hN hw h _; exact ⟨rfl, rfl, fun _ => h, hw⟩
  | succ n ih =>
    intro k D f hN hw h ho
    have g := pR_obey hN h (ho k (by omega) (by omega))
    unfold fDoL nDoL
    rw [g.1]
    split
    · exact ⟨rfl, rfl, fun hh => absurd (show false = true from hh) (by decide), nWf_acted hN hw⟩
    · exact ih (k + 1) _ _ (nActed_ok hN) (nWf_acted hN hw) g.2 (fun j j0 j1 => ho j (by omega) (by omega))

/-! the reference's row of numbers keeps its ranges -/
def nLo (c : Int) : Int := if c < 62 then 0 else if (c - 62) % 27 = 2 then -1 else 0
def nHi (c : Int) : Int := if c = 0 then 5 else if c = 1 then 24 else if c = 2 then 32 else if c = 3 then 255 else if c < 14 then 23 else if c < 62 then (if (c - 14) % 2 = 0 then 4 else 2) else if (c - 62) % 27 < 2 then 23 else if (c - 62) % 27 = 2 then 4 else 255
def nR (f : Int → Int) : Prop := ∀ c : Int, 0 ≤ c → c < 926 → nLo c ≤ f c ∧ f c ≤ nHi c
theorem nOk_to {f : Int → Int} (h : nOk f) : nR f := by
  obtain ⟨h0, h1, h2, h3, h4, h5, h6⟩ := h
  intro c hc0 hc
  by_cases c1 : c < 14
  · have hlo : nLo c = 0 := if_pos (by omega)
    rw [hlo]
    unfold nHi
    by_cases e0 : c = 0
    · subst e0; rw [if_pos rfl]; exact h0
    by_cases e1 : c = 1
    · subst e1; rw [if_neg (by decide), if_pos rfl]; exact h1
    by_cases e2 : c = 2
    · subst e2; rw [if_neg (by decide), if_neg (by decide), if_pos rfl]; exact h2
    by_cases e3 : c = 3
    · subst e3; rw [if_neg (by decide), if_neg (by decide), if_neg (by decide), if_pos rfl]; exact h3
    rw [if_neg e0, if_neg e1, if_neg e2, if_neg e3, if_pos c1]
    exact h4 c (by omega) c1
  by_cases c2 : c < 62
  · have hlo : nLo c = 0 := if_pos c2
    rw [hlo]
    unfold nHi
    rw [if_neg (by omega), if_neg (by omega), if_neg (by omega), if_neg (by omega), if_neg c1, if_pos c2]
    have hn := h5 ((c - 14) / 2) (by omega) (by omega)
    by_cases e : (c - 14) % 2 = 0
    · rw [if_pos e]
      have : 14 + 2 * ((c - 14) / 2) = c := by omega
      rw [this] at hn; exact hn.1
    · rw [if_neg e]
      have : 14 + 2 * ((c - 14) / 2) + 1 = c := by omega
      rw [this] at hn; exact hn.2
  · obtain ⟨g0, g1, g2, g3⟩ := h6 ((c - 62) / 27) (by omega) (by omega)
    have hlo : nLo c = if (c - 62) % 27 = 2 then -1 else 0 := if_neg c2
    have hhi : nHi c = if (c - 62) % 27 < 2 then 23 else if (c - 62) % 27 = 2 then 4 else 255 := by
      unfold nHi
      rw [if_neg (show ¬ c = 0 by omega), if_neg (show ¬ c = 1 by omega), if_neg (show ¬ c = 2 by omega), if_neg (show ¬ c = 3 by omega), if_neg c1, if_neg c2]
    rw [hlo, hhi]
    by_cases r0 : (c - 62) % 27 = 0
    · have : 62 + 27 * ((c - 62) / 27) = c := by omega
      rw [this] at g0
      (repeat' split) <;> omega
    by_cases r1 : (c - 62) % 27 = 1
    · have : 62 + 27 * ((c - 62) / 27) + 1 = c := by omega
      rw [this] at g1
      (repeat' split) <;> omega
    by_cases r2 : (c - 62) % 27 = 2
    · have : 62 + 27 * ((c - 62) / 27) + 2 = c := by omega
      rw [this] at g2
      (repeat' split) <;> omega
    · have g := g3 ((c - 62) % 27 - 3) (by omega) (by omega)
      have : 62 + 27 * ((c - 62) / 27) + 3 + ((c - 62) % 27 - 3) = c := by omega
      rw [this] at g
      (repeat' split) <;> omega
theorem nHi_node {n : Int} (h0 : 0 ≤ n) (h : n < 24) : (nLo (14 + 2 * n) = 0 ∧ nHi (14 + 2 * n) = 4) ∧ (nLo (14 + 2 * n + 1) = 0 ∧ nHi (14 + 2 * n + 1) = 2) := by
  unfold nLo nHi
  refine ⟨⟨if_pos (by omega), ?_⟩, ⟨if_pos (by omega), ?_⟩⟩
  · rw [if_neg (by omega), if_neg (by omega), if_neg (by omega), if_neg (by omega), if_neg (by omega), if_pos (by omega), if_pos (by omega)]
  · rw [if_neg (by omega), if_neg (by omega), if_neg (by omega), if_neg (by omega), if_neg (by omega), if_pos (by omega), if_neg (by omega)]
theorem nHi_edge {e : Int} (h0 : 0 ≤ e) (h : e < 32) : (nLo (62 + 27 * e) = 0 ∧ nHi (62 + 27 * e) = 23) ∧ (nLo (62 + 27 * e + 1) = 0 ∧ nHi (62 + 27 * e + 1) = 23) ∧ (nLo (62 + 27 * e + 2) = -1 ∧ nHi (62 + 27 * e + 2) = 4) ∧ ∀ k : Int, 0 ≤ k → k < 24 → nLo (62 + 27 * e + 3 + k) = 0 ∧ nHi (62 + 27 * e + 3 + k) = 255 := by
  unfold nLo nHi
  refine ⟨⟨?_, ?_⟩, ⟨?_, ?_⟩, ⟨?_, ?_⟩, fun k k0 k1 => ⟨?_, ?_⟩⟩
  · rw [if_neg (by omega), if_neg (by omega)]
  · rw [if_neg (by omega), if_neg (by omega), if_neg (by omega), if_neg (by omega), if_neg (by omega), if_neg (by omega), if_pos (by omega)]
  · rw [if_neg (by omega), if_neg (by omega)]
  · rw [if_neg (by omega), if_neg (by omega), if_neg (by omega), if_neg (by omega), if_neg (by omega), if_neg (by omega), if_pos (by omega)]
  · rw [if_neg (by omega), if_pos (by omega)]
  · rw [if_neg (by omega), if_neg (by omega), if_neg (by omega), if_neg (by omega), if_neg (by omega), if_neg (by omega), if_neg (by omega), if_pos (by omega)]
  · rw [if_neg (by omega), if_neg (by omega)]
  · rw [if_neg (by omega), if_neg (by omega), if_neg (by omega), if_neg (by omega), if_neg (by omega), if_neg (by omega), if_neg (by omega), if_neg (by omega)]
theorem nHi_end {j : Int} (h0 : 4 ≤ j) (h : j < 14) : nLo j = 0 ∧ nHi j = 23 := by
  unfold nLo nHi
  refine ⟨if_pos (by omega), ?_⟩
  rw [if_neg (by omega), if_neg (by omega), if_neg (by omega), if_neg (by omega), if_pos h]
theorem nHi_c : (nLo 0 = 0 ∧ nHi 0 = 5) ∧ (nLo 1 = 0 ∧ nHi 1 = 24) ∧ (nLo 2 = 0 ∧ nHi 2 = 32) ∧ (nLo 3 = 0 ∧ nHi 3 = 255) := by decide
theorem nOk_of {f : Int → Int} (h : nR f) : nOk f := by
  have c0 := h 0 (by decide) (by decide)
  have c1 := h 1 (by decide) (by decide)
  have c2 := h 2 (by decide) (by decide)
  have c3 := h 3 (by decide) (by decide)
  obtain ⟨e0, e1, e2, e3⟩ := nHi_c
  rw [e0.1, e0.2] at c0
  rw [e1.1, e1.2] at c1
  rw [e2.1, e2.2] at c2
  rw [e3.1, e3.2] at c3
  refine ⟨c0, c1, c2, c3, fun j h1 h2 => ?_, fun n h1 h2 => ?_, fun e h1 h2 => ?_⟩
  · have := h j (by omega) (by omega); rw [(nHi_end h1 h2).1, (nHi_end h1 h2).2] at this; exact this
  · have a := h (14 + 2 * n) (by omega) (by omega)
    have b := h (14 + 2 * n + 1) (by omega) (by omega)
    obtain ⟨p, q⟩ := nHi_node h1 h2
    rw [p.1, p.2] at a; rw [q.1, q.2] at b
    exact ⟨a, b⟩
  · obtain ⟨p, q, r, s⟩ := nHi_edge h1 h2
    have a := h (62 + 27 * e) (by omega) (by omega)
    have b := h (62 + 27 * e + 1) (by omega) (by omega)
    have c := h (62 + 27 * e + 2) (by omega) (by omega)
    rw [p.1, p.2] at a; rw [q.1, q.2] at b; rw [r.1, r.2] at c
    refine ⟨a, b, c, fun k k0 k1 => ?_⟩
    have d := h (62 + 27 * e + 3 + k) (by omega) (by omega)
    rw [(s k k0 k1).1, (s k k0 k1).2] at d; exact d
theorem nR_up {f : Int → Int} {i v : Int} (h : nR f) (hv : nLo i ≤ v ∧ v ≤ nHi i) : nR (up f i v) := by
  intro c h1 h2
  unfold up
  split
  · rename_i hc; rw [hc]; exact hv
  · exact h c h1 h2
theorem nNode_ok {f : Int → Int} {p s : Int} (h : nOk f) (hf : f 1 < 24) (hp : 0 ≤ p ∧ p ≤ 4) (hs : 0 ≤ s ∧ s ≤ 2) : nOk (nNode f p s) := by
  have h1 := h.2.1
  obtain ⟨a, b⟩ := nHi_node (n := f 1) (by omega) (by omega)
  refine nOk_of ?_
  have e := nNode_1 f p s h1.1
  unfold nNode at e ⊢
  refine nR_up (nR_up (nR_up (nOk_to h) (by rw [a.1, a.2]; omega)) (by rw [b.1, b.2]; omega)) ?_
  rw [up_s] at e
  rw [nHi_c.2.1.1, nHi_c.2.1.2, e]; omega
theorem nAddProc_ok {f : Int → Int} (h : nOk f) : nOk (nAddProc f).2 := by
  unfold nAddProc
  split
  · exact h
  · have h0 := h.1
    have h1 := h.2.1
    have o1 : nOk (nP1 f) := nOk_of (nR_up (nOk_to (nNode_ok h (by omega) (by omega) (by omega))) (by rw [(nHi_end (j := 4 + 2 * f 0) (by omega) (by omega)).1, (nHi_end (j := 4 + 2 * f 0) (by omega) (by omega)).2]; omega))
    have e1 := nP1_1 f h1.1 h0.1
    have o2 : nOk (nP2 f) := nOk_of (nR_up (nOk_to (nNode_ok o1 (by omega) (by omega) (by omega))) (by rw [(nHi_end (j := 4 + 2 * f 0 + 1) (by omega) (by omega)).1, (nHi_end (j := 4 + 2 * f 0 + 1) (by omega) (by omega)).2]; omega))
    have e2 : nP2 f 0 = f 0 := by
      unfold nP2 nNode nP1 nNode
      rw [up_n _ _ (by omega), up_n _ _ (by omega), up_n _ _ (by have := e1; unfold nP1 nNode at this; omega), up_n _ _ (by have := e1; unfold nP1 nNode at this; omega), up_n _ _ (by omega), up_n _ _ (by omega), up_n _ _ (by omega), up_n _ _ (by omega)]
    exact nOk_of (nR_up (nOk_to o2) (by rw [nHi_c.1.1, nHi_c.1.2, e2]; omega))

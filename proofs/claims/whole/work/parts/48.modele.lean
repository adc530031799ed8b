/-! the reference's row of numbers keeps its ranges -/
def nLo (c : Int) : Int := if c < 62 then 0 else if (c - 62) % 27 = 2 then -1 else 0
def nHi (c : Int) : Int := if c = 0 then 5 else if c = 1 then 24 else if c = 2 then 32 else if c = 3 then 255 else if c < 14 then 23 else if c < 62 then (if (c - 14) % 2 = 0 then 4 else 2) else if (c - 62) % 27 < 2 then 23 else if (c - 62) % 27 = 2 then 4 else 255
def nR (f : Int → Int) : Prop := ∀ c : Int, 0 ≤ c → c < 926 → nLo c ≤ f c ∧ f c ≤ nHi c
theorem nOk_to {f : Int → Int} (h : nOk f) : nR f := by
  obtain ⟨h0, h1, h2, h3, h4, h5, h6⟩ := h
  intro c hc0 hc
  by_cases c1 : c < 14
  · have hlo : nLo c = 0 := if_pos (by omega)
    rw [hlo]
    unfold nHi
    by_cases e0 : c = 0
    · subst e0; rw [if_pos rfl]; exact h0
    by_cases e1 : c = 1
    · subst e1; rw [if_neg (by decide), if_pos rfl]; exact h1
    by_cases e2 : c = 2
    · subst e2; rw [if_neg (by decide), if_neg (by decide), if_pos rfl]; exact h2
    by_cases e3 : c = 3
    · subst e3; rw [if_neg (by decide), if_neg (by decide), if_neg (by decide), if_pos rfl]; exact h3
    rw [if_neg e0, if_neg e1, if_neg e2, if_neg e3, if_pos c1]
    exact h4 c (by omega) c1
  by_cases c2 : c < 62
  · have hlo : nLo c = 0 := if_pos c2
    rw [hlo]
    unfold nHi
    rw [if_neg (by omega), if_neg (by omega), if_neg (by omega), if_neg (by omega), if_neg c1, if_pos c2]
    have hn := h5 ((c - 14) / 2) (by omega) (by omega)
    by_cases e : (c - 14) % 2 = 0
    · rw [if_pos e]
      have : 14 + 2 * ((c - 14) / 2) = c := by omega
      rw [this] at hn; exact hn.1
    · rw [if_neg e]
      have : 14 + 2 * ((c - 14) / 2) + 1 = c := by omega
      rw [this] at hn; exact hn.2
  · obtain ⟨g0, g1, g2, g3⟩ := h6 ((c - 62) / 27) (by omega) (by omega)
    have hlo : nLo c = if (c - 62) % 27 = 2 then -1 else 0 := if_neg c2
    have hhi : nHi c = if (c - 62) % 27 < 2 then 23 else if (c - 62) % 27 = 2 then 4 else 255 := by
      unfold nHi
      rw [if_neg (show ¬ c = 0 by omega), if_neg (show ¬ c = 1 by omega), if_neg (show ¬ c = 2 by omega), if_neg (show ¬ c = 3 by omega), if_neg c1, if_neg c2]
    rw [hlo, hhi]
    by_cases r0 : (c - 62) % 27 = 0
    · have : 62 + 27 * ((c - 62) / 27) = c := by omega
      rw [this] at g0
      (repeat' split) <;> omega
    by_cases r1 : (c - 62) % 27 = 1
    · have : 62 + 27 * ((c - 62) / 27) + 1 = c := by omega
      rw [this] at g1
      (repeat' split) <;> omega
    by_cases r2 : (c - 62) % 27 = 2
    · have : 62 + 27 * ((c - 62) / 27) + 2 = c := by omega
      rw [this] at g2
      (repeat' split) <;> omega
    · have g := g3 ((c - 62) % 27 - 3) (by omega) (by omega)
      have : 62 + 27 * ((c - 62) / 27) + 3 + ((c - 62) % 27 - 3) = c := by omega
      rw [this] at g
      (repeat' split) <;> omega
theorem nHi_node {n : Int} (h0 : 0 ≤ n) (h : n < 24) : (nLo (14 + 2 * n) = 0 ∧ nHi (14 + 2 * n) = 4) ∧ (nLo (14 + 2 * n + 1) = 0 ∧ nHi (14 + 2 * n + 1) = 2) := by
  unfold nLo nHi
  refine ⟨⟨if_pos (by omega), ?_⟩, ⟨if_pos (by omega), ?_⟩⟩
  · rw [if_neg (by omega), if_neg (by omega), if_neg (by omega), if_neg (by omega), if_neg (by omega), if_pos (by omega), if_pos (by omega)]
  · rw [if_neg (by omega), if_neg (by omega), if_neg (by omega), if_neg (by omega), if_neg (by omega), if_pos (by omega), if_neg (by omega)]
theorem nHi_edge {e : Int} (h0 : 0 ≤ e) (h : e < 32) : (nLo (62 + 27 * e) = 0 ∧ nHi (62 + 27 * e) = 23) ∧ (nLo (62 + 27 * e + 1) = 0 ∧ nHi (62 + 27 * e + 1) = 23) ∧ (nLo (62 + 27 * e + 2) = -1 ∧ nHi (62 + 27 * e + 2) = 4) ∧ ∀ k : Int, 0 ≤ k → k < 24 → nLo (62 + 27 * e + 3 + k) = 0 ∧ nHi (62 + 27 * e + 3 + k) = 255 := by
  unfold nLo nHi
  refine ⟨⟨?_, ?_⟩, ⟨?_, ?_⟩, ⟨?_, ?_⟩, fun k k0 k1 => ⟨?_, ?_⟩⟩
  · rw [if_neg (by omega), if_neg (by omega)]
  · rw [if_neg (by omega), if_neg (by omega), if_neg (by omega), if_neg (by omega), if_neg (by omega), if_neg (by omega), if_pos (by omega)]
  · rw [if_neg (by omega), if_neg (by omega)]
  · rw [if_neg (by omega), if_neg (by omega), if_neg (by omega), if_neg (by omega), if_neg (by omega), if_neg (by omega), if_pos (by omega)]
  · rw [if_neg (by omega), if_pos (by omega)]
  · rw [if_neg (by omega), if_neg (by omega), if_neg (by omega), if_neg (by omega), if_neg (by omega), if_neg (by omega), if_neg (by omega), if_pos (by omega)]
  · rw [if_neg (by omega), if_neg (by omega)]
  · rw [if_neg (by omega), if_neg (by omega), if_neg (by omega), if_neg (by omega), if_neg (by omega), if_neg (by omega), if_neg (by omega), if_neg (by omega)]
theorem nHi_end {j : Int} (h0 : 4 ≤ j) (h : j < 14) : nLo j = 0 ∧ nHi j = 23 := by
  unfold nLo nHi
  refine ⟨if_pos (by omega), ?_⟩
  rw [if_neg (by omega), if_neg (by omega), if_neg (by omega), if_neg (by omega), if_pos h]
theorem nHi_c : (nLo 0 = 0 ∧ nHi 0 = 5) ∧ (nLo 1 = 0 ∧ nHi 1 = 24) ∧ (nLo 2 = 0 ∧ nHi 2 = 32) ∧ (nLo 3 = 0 ∧ nHi 3 = 255) := by decide
theorem nOk_of {f : Int → Int} (h : nR f) : nOk f := by
  have c0 := h 0 (by decide) (by decide)
  have c1 := h 1 (by decide) (by decide)
  have c2 := h 2 (by decide) (by decide)
  have c3 := h 3 (by decide) (by decide)
  obtain ⟨e0, e1, e2, e3⟩ := nHi_c
  rw [e0.1, e0.2] at c0
  rw [e1.1, e1.2] at c1
  rw [e2.1, e2.2] at c2
  rw [e3.1, e3.2] at c3
  refine ⟨c0, c1, c2, c3, fun j h1 h2 => ?_, fun n h1 h2 => ?_, fun e h1 h2 => ?_⟩
  · have := h j (by omega) (by omega); rw [(nHi_end h1 h2).1, (nHi_end h1 h2).2] at this; exact this
  · have a := h (14 + 2 * n) (by omega) (by omega)
    have b := h (14 + 2 * n + 1) (by omega) (by omega)
    obtain ⟨p, q⟩ := nHi_node h1 h2
    rw [p.1, p.2] at a; rw [q.1, q.2] at b
    exact ⟨a, b⟩
  · obtain ⟨p, q, r, s⟩ := nHi_edge h1 h2
    have a := h (62 + 27 * e) (by omega) (by omega)
    have b := h (62 + 27 * e + 1) (by omega) (by omega)
    have c := h (62 + 27 * e + 2) (by omega) (by omega)
    rw [p.1, p.2] at a; rw [q.1, q.2] at b; rw [r.1, r.2] at c
    refine ⟨a, b, c, fun k k0 k1 => ?_⟩
    have d := h (62 + 27 * e + 3 + k) (by omega) (by omega)
    rw [(s k k0 k1).1, (s k k0 k1).2] at d; exact d
theorem nR_up {f : Int → Int} {i v : Int} (h : nR f) (hv : nLo i ≤ v ∧ v ≤ nHi i) : nR (up f i v) := by
  intro c h1 h2
  unfold up
  split
  · rename_i hc; rw [hc]; exact hv
  · exact h c h1 h2
theorem nNode_ok {f : Int → Int} {p s : Int} (h : nOk f) (hf : f 1 < 24) (hp : 0 ≤ p ∧ p ≤ 4) (hs : 0 ≤ s ∧ s ≤ 2) : nOk (nNode f p s) := by
  have h1 := h.2.1
  obtain ⟨a, b⟩ := nHi_node (n := f 1) (by omega) (by omega)
  refine nOk_of ?_
  have e := nNode_1 f p s h1.1
  unfold nNode at e ⊢
  refine nR_up (nR_up (nR_up (nOk_to h) (by rw [a.1, a.2]; omega)) (by rw [b.1, b.2]; omega)) ?_
  rw [up_s] at e
  rw [nHi_c.2.1.1, nHi_c.2.1.2, e]; omega
theorem nAddProc_ok {f : Int → Int} (h : nOk f) : nOk (nAddProc f).2 := by
  unfold nAddProc
  split
  · exact h
  · have h0 := h.1
    have h1 := h.2.1
    have o1 : nOk (nP1 f) := nOk_of (nR_up (nOk_to (nNode_ok h (by omega) (by omega) (by omega))) (by rw [(nHi_end (j := 4 + 2 * f 0) (by omega) (by omega)).1, (nHi_end (j := 4 + 2 * f 0) (by omega) (by omega)).2]; omega))
    have e1 := nP1_1 f h1.1 h0.1
    have o2 : nOk (nP2 f) := nOk_of (nR_up (nOk_to (nNode_ok o1 (by omega) (by omega) (by omega))) (by rw [(nHi_end (j := 4 + 2 * f 0 + 1) (by omega) (by omega)).1, (nHi_end (j := 4 + 2 * f 0 + 1) (by omega) (by omega)).2]; omega))
    have e2 : nP2 f 0 = f 0 := by
      unfold nP2 nNode nP1 nNode
      rw [up_n _ _ (by omega), up_n _ _ (by omega), up_n _ _ (by have := e1; unfold nP1 nNode at this; omega), up_n _ _ (by have := e1; unfold nP1 nNode at this; omega), up_n _ _ (by omega), up_n _ _ (by omega), up_n _ _ (by omega), up_n _ _ (by omega)]
    exact nOk_of (nR_up (nOk_to o2) (by rw [nHi_c.1.1, nHi_c.1.2, e2]; omega))
theorem nAddAny_ok {f : Int → Int} {p : Int} (h : nOk f) : nOk (nAddAny f p).2 := by
  have h0 := h.1
  have h1 := h.2.1
  unfold nAddAny
  split
  · exact h
  · split
    · exact h
    · exact nNode_ok h (by omega) (by omega) (by omega)
theorem nE2_ok {f : Int → Int} {n m q : Int} (h : nOk f) (h2 : f 2 < 32) (hn : 0 ≤ n ∧ n ≤ 23) (hm : 0 ≤ m ∧ m ≤ 23) (hq : -1 ≤ q ∧ q ≤ 4) : nR (nE2 f n m q) ∧ nE2 f n m q 2 = f 2 := by
  have hf := h.2.2.1
  obtain ⟨a, b, c, d⟩ := nHi_edge (e := f 2) (by omega) h2
  unfold nE2
  refine it_inv (fun _ (g : Int → Int) => nR g ∧ g 2 = f 2) (b := 24) 24 0 _ (by omega) ?_ (fun j g j0 j1 hg => ?_)
  · refine ⟨nR_up (nR_up (nR_up (nOk_to h) (by rw [a.1, a.2]; exact hn)) (by rw [b.1, b.2]; exact hm)) (by rw [c.1, c.2]; exact hq), ?_⟩
    show nE1 f n m q 2 = f 2
    unfold nE1
    rw [up_n _ _ (by omega), up_n _ _ (by omega), up_n _ _ (by omega)]
  · have hp := p2_0 (j % 8)
    have hp2 := p2_8 (k := j % 8) (by omega)
    refine ⟨nR_up hg.1 (by rw [(d j j0 j1).1, (d j j0 j1).2]; omega), ?_⟩
    show up g _ _ 2 = f 2
    rw [up_n _ _ (by omega)]; exact hg.2
theorem nAddEdge_ok {f : Int → Int} {n m q : Int} (h : nOk f) : nOk (nAddEdge f n m q).2 := by
  have h0 := h.1
  have h1 := h.2.1
  have h2 := h.2.2.1
  unfold nAddEdge
  split
  · split
    · exact h
    · have hE := nE2_ok (f := f) (n := n) (m := m) (q := q) h (by omega) (by omega) (by omega) (by omega)
      exact nOk_of (nR_up hE.1 (by rw [nHi_c.2.2.1.1, nHi_c.2.2.1.2, hE.2]; omega))
  · exact h
theorem nAddCall_ok {f : Int → Int} {n q m : Int} (h : nOk f) : nOk (nAddCall f n q m).2 := by
  unfold nAddCall
  split
  · exact nAddEdge_ok h
  · exact h
theorem nSetFlow_ok {f : Int → Int} {e w a v : Int} (h : nOk f) : nOk (nSetFlow f e w a v).2 := by
  have h2 := h.2.2.1
  unfold nSetFlow
  by_cases hq : (((0 ≤ e ∧ e ≤ f 2 - 1) ∧ (0 ≤ w ∧ w ≤ (if f (62 + 27 * e + 2) = -1 then 0 else 2)) ∧ (0 ≤ a ∧ a ≤ 7)) ∧ (0 ≤ v ∧ v ≤ 255) ∧ (bA v 1 = if a = 0 then 1 else 0))
  · rw [if_pos hq]
    have hw0 := hq.1.2.1.1
    have hw : w ≤ 2 := by
      have h9 := hq.1.2.1.2
      split at h9 <;> omega
    have h3 := hq.1.1
    have h5 := hq.1.2.2
    obtain ⟨-, -, -, d⟩ := nHi_edge (e := e) (by omega) (by omega)
    have hd := d (8 * w + a) (by omega) (by omega)
    refine nOk_of (nR_up (nOk_to h) ?_)
    rw [show 62 + 27 * e + 3 + 8 * w + a = 62 + 27 * e + 3 + (8 * w + a) by omega, hd.1, hd.2]
    exact hq.2.1
  · rw [if_neg hq]; exact h
theorem nSetStart_ok {f : Int → Int} {v : Int} (h : nOk f) : nOk (nSetStart f v).2 := by
  unfold nSetStart
  split
  · rename_i hq
    exact nOk_of (nR_up (nOk_to h) (by rw [nHi_c.2.2.2.1, nHi_c.2.2.2.2]; exact hq.1))
  · exact h
theorem nPer {c : Int} (h : 62 ≤ c) : nLo (c + 27) = nLo c ∧ nHi (c + 27) = nHi c := by
  unfold nLo nHi
  have e : (c + 27 - 62) % 27 = (c - 62) % 27 := by omega
  rw [e]
  constructor
  · rw [if_neg (show ¬ c + 27 < 62 by omega), if_neg (show ¬ c < 62 by omega)]
  · rw [if_neg (show ¬ c + 27 = 0 by omega), if_neg (show ¬ c + 27 = 1 by omega), if_neg (show ¬ c + 27 = 2 by omega), if_neg (show ¬ c + 27 = 3 by omega), if_neg (show ¬ c + 27 < 14 by omega), if_neg (show ¬ c + 27 < 62 by omega), if_neg (show ¬ c = 0 by omega), if_neg (show ¬ c = 1 by omega), if_neg (show ¬ c = 2 by omega), if_neg (show ¬ c = 3 by omega), if_neg (show ¬ c < 14 by omega), if_neg (show ¬ c < 62 by omega)]
theorem nShift_ok {f : Int → Int} {e : Int} (h : nOk f) (he : 0 ≤ e ∧ e < 32) : nR (nShift f e) := by
  unfold nShift
  by_cases hb : 62 + 27 * e ≤ 899
  · exact it_inv (fun _ (g : Int → Int) => nR g) (b := 899) _ (62 + 27 * e) f (by omega) (nOk_to h) (fun j g j0 j1 hg => nR_up hg (by
      have := hg (j + 27) (by omega) (by omega)
      rw [(nPer (c := j) (by omega)).1, (nPer (c := j) (by omega)).2] at this; exact this))
  · have : (899 - (62 + 27 * e)).toNat = 0 := by omega
    rw [this]; exact nOk_to h
theorem nCut_ok {f : Int → Int} {e : Int} (h : nOk f) : nOk (nCut f e).2 := by
  have h2 := h.2.2.1
  unfold nCut
  split
  · have hs := nShift_2 f e (by omega) 2 (by decide)
    exact nOk_of (nR_up (nShift_ok h (by omega)) (by rw [nHi_c.2.2.1.1, nHi_c.2.2.1.2, hs]; omega))
  · exact h
theorem nActed_ok {f O : Int → Int} {k : Int} (h : nOk f) : nOk (nActed f O k).2 := by
  unfold nActed
  (repeat' split) <;> first | exact nAddProc_ok h | exact nAddAny_ok h | exact nAddEdge_ok h | exact nAddCall_ok h | exact nSetFlow_ok h | exact nSetStart_ok h | exact nCut_ok h
theorem nActed_a {f O : Int → Int} {k : Int} (h : nOk f) : rg (nActed f O k).1 := by
  unfold nActed
  (repeat' split) <;> first | exact nAddProc_a h | exact nAddAny_a h | exact nAddEdge_a h | exact nAddCall_a h | exact nSetFlow_a h | exact nSetStart_a h | exact nCut_a h
def nDoL (O : Int → Int) : Nat → Int → (Int → Int) → Bool × Int × (Int → Int)
  | 0, k, f => (true, k, f)
  | n + 1, k, f => if (nActed f O k).1 < 0 then (false, k, (nActed f O k).2) else nDoL O n (k + 1) (nActed f O k).2
theorem nDoL_ok (O : Int → Int) (n : Nat) : ∀ (k : Int) (f : Int → Int), nOk f → nOk (nDoL O n k f).2.2 := by
  induction n with
  | zero => intro k f h; exact h
  | succ n ih =>
    intro k f h
    unfold nDoL
    split
    · exact nActed_ok h
    · exact ih _ _ (nActed_ok h)
theorem rNums_q (len : Int) (b : Int → Int) (wr : Int) (k : Nat) : ∀ (i p : Int) (O : Int → Int), p ≤ len → oOk O → p ≤ (rNums len b wr k i p O).2.1 ∧ (rNums len b wr k i p O).2.1 ≤ len ∧ oOk (rNums len b wr k i p O).2.2 := by
  induction k with
  | zero => intro i p O h hO; exact ⟨Int.le_refl _, h, hO⟩
  | succ k ih =>
    intro i p O h hO
    have hq := rNum_q len b p h
    unfold rNums
    split
    · exact ⟨hq.1, hq.2.1, hO⟩
    · rename_i hne
      have := ih (i + 1) (rNum len b p).2 (up O (5 * wr + 1 + i) (rNum len b p).1) hq.2.1 (up_rng hO _ (by omega))
      exact ⟨by omega, this.2.1, this.2.2⟩
theorem rReads_q (len : Int) (b : Int → Int) (q : Int) (O : Int → Int) (w : Int) (hb : ∀ j : Int, 0 ≤ j → j < 120 → 0 ≤ b j ∧ b j ≤ 127) (hl : len ≤ 120) (hq : 0 ≤ q ∧ q ≤ len) (hO : oOk O) : q ≤ (rReads len b q O w).2.1 ∧ (rReads len b q O w).2.1 ≤ len ∧ oOk (rReads len b q O w).2.2.1 ∧ ((rReads len b q O w).1 = true → q + 2 ≤ (rReads len b q O w).2.1 ∧ (rReads len b q O w).2.2.2 = w + 1) ∧ ((rReads len b q O w).1 = false → (rReads len b q O w).2.2.2 = w) := by
  unfold rReads
  split
  · exact ⟨Int.le_refl _, hq.2, hO, fun h => absurd (show false = true from h) (by decide), fun _ => rfl⟩
  · rename_i hnb
    have hlt := xBehind_lt hnb
    have hs := skT_q len b (q + 1) (by omega)
    have hbq := hb q (by omega) (by omega)
    have hc : bAt len b q = b q := if_pos hlt
    have hN := rNums_q len b w (xBehind (bAt len b q)).toNat 0 (skT len b (q + 1)) (up O (5 * w) (bAt len b q)) hs.2 (up_rng hO _ (by rw [hc]; omega))
    have hN1 : skT len b (q + 1) ≤ (rN len b q O w).2.1 := hN.1
    have hN2 : (rN len b q O w).2.1 ≤ len := hN.2.1
    split
    · split
      · rename_i h59
        have hlt2 : (rN len b q O w).2.1 < len := by
          by_cases h9 : (rN len b q O w).2.1 < len
          · exact h9
          · rw [show bAt len b (rN len b q O w).2.1 = -1 from if_neg h9] at h59; omega
        have hs2 := skT_q len b ((rN len b q O w).2.1 + 1) (by omega)
        exact ⟨by show q ≤ skT len b ((rN len b q O w).2.1 + 1); omega, hs2.2, hN.2.2, fun _ => ⟨by show q + 2 ≤ skT len b ((rN len b q O w).2.1 + 1); omega, rfl⟩, fun h => absurd (show true = false from h) (by decide)⟩
      · exact ⟨by show q ≤ (rN len b q O w).2.1; omega, hN2, hN.2.2, fun h => absurd (show false = true from h) (by decide), fun _ => rfl⟩
    · exact ⟨by show q ≤ (rN len b q O w).2.1; omega, hN2, hN.2.2, fun h => absurd (show false = true from h) (by decide), fun _ => rfl⟩

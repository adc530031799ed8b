/-! SIMULATION: WITNESSES -/
abbrev prX (X : Md) (i : Int) : Int := 10 * m_node X i + m_fact X i
def wyL (X : Md) : Nat → Int → Int → List Int
  | 0, i, _ => [prX X i]
  | k + 1, i, so => if spT X i so then [prX X i] else wyL X k (m_ahead X i) so ++ ((if m_inside X i = -1 then [] else wyL X k (m_inside X i) 1) ++ [prX X i])
def wOrd (X : Md) : Prop := ∀ i : Int, 0 ≤ i → i < m_entries X → (-1 ≤ m_ahead X i ∧ m_ahead X i < i) ∧ (-1 ≤ m_inside X i ∧ m_inside X i < i)
theorem wyL_st {X : Md} (hw : wOrd X) (k : Nat) : ∀ (k' : Nat) (i so : Int), 0 ≤ i → i < m_entries X → i < k → i < k' → wyL X k i so = wyL X k' i so := by
  induction k with
  | zero => intro k' i so h0 _ h1; omega
  | succ k ih =>
    intro k' i so h0 hE h1 h2
    cases k' with
    | zero => omega
    | succ k' =>
      have w := hw i h0 hE
      show (if spT X i so then [prX X i] else wyL X k (m_ahead X i) so ++ ((if m_inside X i = -1 then [] else wyL X k (m_inside X i) 1) ++ [prX X i])) = (if spT X i so then [prX X i] else wyL X k' (m_ahead X i) so ++ ((if m_inside X i = -1 then [] else wyL X k' (m_inside X i) 1) ++ [prX X i]))
      by_cases ht : spT X i so
      · rw [if_pos ht, if_pos ht]
      · have ha : m_ahead X i ≠ -1 := fun hh => ht (Or.inl hh)
        rw [if_neg ht, if_neg ht, ih k' (m_ahead X i) so (by omega) (by omega) (by omega) (by omega)]
        by_cases hi : m_inside X i = -1
        · rw [if_pos hi, if_pos hi]
        · rw [if_neg hi, if_neg hi, ih k' (m_inside X i) 1 (by omega) (by omega) (by omega) (by omega)]
def wy (X : Md) (i so : Int) : List Int := wyL X (i.toNat + 1) i so
theorem wy_eq {X : Md} (hw : wOrd X) {i so : Int} (h0 : 0 ≤ i) (hE : i < m_entries X) : wy X i so = if spT X i so then [prX X i] else wy X (m_ahead X i) so ++ ((if m_inside X i = -1 then [] else wy X (m_inside X i) 1) ++ [prX X i]) := by
  have w := hw i h0 hE
  show (if spT X i so then [prX X i] else wyL X i.toNat (m_ahead X i) so ++ ((if m_inside X i = -1 then [] else wyL X i.toNat (m_inside X i) 1) ++ [prX X i])) = _
  by_cases ht : spT X i so
  · rw [if_pos ht, if_pos ht]
  · have ha : m_ahead X i ≠ -1 := fun hh => ht (Or.inl hh)
    rw [if_neg ht, if_neg ht]
    have e1 : wyL X i.toNat (m_ahead X i) so = wy X (m_ahead X i) so := wyL_st hw i.toNat _ _ so (by omega) (by omega) (by omega) (by omega)
    rw [e1]
    by_cases hi : m_inside X i = -1
    · rw [if_pos hi, if_pos hi]
    · rw [if_neg hi, if_neg hi]
      have e2 : wyL X i.toNat (m_inside X i) 1 = wy X (m_inside X i) 1 := wyL_st hw i.toNat _ _ 1 (by omega) (by omega) (by omega) (by omega)
      rw [e2]
theorem wy_t {X : Md} (hw : wOrd X) {i so : Int} (h0 : 0 ≤ i) (hE : i < m_entries X) (ht : spT X i so) : wy X i so = [prX X i] := by rw [wy_eq hw h0 hE, if_pos ht]
theorem wy_o {X : Md} (hw : wOrd X) {i so : Int} (h0 : 0 ≤ i) (hE : i < m_entries X) (ht : ¬ spT X i so) : wy X i so = wy X (m_ahead X i) so ++ ((if m_inside X i = -1 then [] else wy X (m_inside X i) 1) ++ [prX X i]) := by rw [wy_eq hw h0 hE, if_neg ht]
theorem wy_pos {X : Md} (hw : wOrd X) {i so : Int} (h0 : 0 ≤ i) (hE : i < m_entries X) : 1 ≤ (wy X i so).length := by
  by_cases ht : spT X i so
  · rw [wy_t hw h0 hE ht]; exact Nat.le_refl _
  · rw [wy_o hw h0 hE ht]; simp only [List.length_append, List.length_singleton]; omega
theorem fR_ord {N : Int → Int} {X : Md} (h : vV N X) : wOrd X := fun i i0 i1 => ⟨(h.2.2.2.1.1 i i0 i1).2.1, (h.2.2.2.1.1 i i0 i1).2.2.1⟩
/-- how long the rows are, in the class -/
theorem len_sim {N : Int → Int} {T : Tb} {X : Md} (h : fR N T X) (n : Nat) : ∀ i : Int, 0 ≤ i → i < m_entries X → i < n → t_way T i = min ((wy X i 0).length : Int) 1000 ∧ t_inner T i = min ((wy X i 1).length : Int) 1000 := by
  have hw := fR_ord h.1
  have hX := h.1.2.2.1
  induction n with
  | zero => intro i h0 _ h1; omega
  | succ n ih =>
    intro i h0 hE h1
    have w := hw i h0 hE
    have l := (h.2.2.1.2.1 i h0 hE).2
    have v := h.1.2.2.2.1.1 i h0 hE
    have hz : m_inside X i ≠ -1 → t_inner T (m_inside X i) = min ((wy X (m_inside X i) 1).length : Int) 1000 := fun hh => (ih (m_inside X i) (by omega) (by omega) (by omega)).2
    have ha : m_ahead X i ≠ -1 → t_way T (m_ahead X i) = min ((wy X (m_ahead X i) 0).length : Int) 1000 ∧ t_inner T (m_ahead X i) = min ((wy X (m_ahead X i) 1).length : Int) 1000 := fun hh => ih (m_ahead X i) (by omega) (by omega) (by omega)
    constructor
    · rw [l.1]
      by_cases hh : m_ahead X i = -1
      · rw [if_pos hh, wy_t hw h0 hE (Or.inl hh)]; simp only [List.length_singleton]; omega
      · have hnt : ¬ spT X i 0 := fun ht => ht.elim hh (fun h9 => absurd h9.1 (by decide))
        rw [if_neg hh, wy_o hw h0 hE hnt, (ha hh).1]
        simp only [List.length_append, List.length_singleton]
        by_cases hi : m_inside X i = -1
        · rw [if_pos hi, if_pos hi]; simp only [List.length_nil]; omega
        · rw [if_neg hi, if_neg hi, hz hi]; omega
    · rw [l.2]
      by_cases hh : m_ahead X i = -1 ∨ N (14 + 2 * m_node X i + 1) = 0
      · have ht : spT X i 1 := hh.elim Or.inl (fun h9 => Or.inr ⟨rfl, by rw [hX]; exact h9, v.2.2.2.2.2.2 h9⟩)
        rw [if_pos hh, wy_t hw h0 hE ht]; simp only [List.length_singleton]; omega
      · have hnt : ¬ spT X i 1 := fun ht => ht.elim (fun h9 => hh (Or.inl h9)) (fun h9 => hh (Or.inr (by rw [← hX]; exact h9.2.1)))
        rw [if_neg hh, wy_o hw h0 hE hnt, (ha (fun h9 => hh (Or.inl h9))).2]
        simp only [List.length_append, List.length_singleton]
        by_cases hi : m_inside X i = -1
        · rw [if_pos hi, if_pos hi]; simp only [List.length_nil]; omega
        · rw [if_neg hi, if_neg hi, hz hi]; omega
/-- the class's walk down to one PAIR -/
theorem pair_sim {N : Int → Int} {T : Tb} {X : Md} (h : fR N T X) (k : Nat) : ∀ (w : Bool) (y left : Int), 0 ≤ y → y < m_entries X → y < k → 0 ≤ left → left < 1000 → left < ((wy X y (cond w 0 1)).length : Int) → (0 ≤ tPair T k w y left ∧ tPair T k w y left < m_entries X) ∧ (wy X y (cond w 0 1))[left.toNat]? = some (prX X (tPair T k w y left)) := by
  have hw := fR_ord h.1
  have hX := h.1.2.2.1
  induction k with
  | zero => intro w y left h0 _ h1; omega
  | succ k ih =>
    intro w y left h0 hE h1 l0 l1 l2
    have wo := hw y h0 hE
    have r := (h.2.2.1.2.1 y h0 hE).1
    have ln := fun (i : Int) (i0 : 0 ≤ i) (i1 : i < m_entries X) => len_sim h (i.toNat + 1) i i0 i1 (by omega)
    have lw : ∀ i : Int, 0 ≤ i → i < m_entries X → cond w (t_way T) (t_inner T) i = min ((wy X i (cond w 0 1)).length : Int) 1000 := fun i i0 i1 => by
      cases w with
      | true => exact (ln i i0 i1).1
      | false => exact (ln i i0 i1).2
    have v := h.1.2.2.2.1.1 y h0 hE
    unfold tPair
    rw [r.2.1, r.2.2, lw y h0 hE]
    by_cases ht : spT X y (cond w 0 1)
    · rw [wy_t hw h0 hE ht] at l2 ⊢
      have hl : left = 0 := by
        have : ((([prX X y] : List Int).length : Nat) : Int) = 1 := rfl
        omega
      rw [if_pos (Or.inl (show min ((([prX X y] : List Int).length : Nat) : Int) 1000 ≤ 1 by simp only [List.length_singleton]; omega))]
      subst hl
      exact ⟨⟨h0, hE⟩, rfl⟩
    · have hnb : m_ahead X y ≠ -1 := fun hh => ht (Or.inl hh)
      have pa := wy_pos (so := cond w 0 1) hw (i := m_ahead X y) (by omega) (by omega)
      have eL := wy_o hw h0 hE ht
      have hlen : ((wy X y (cond w 0 1)).length : Int) = ((wy X (m_ahead X y) (cond w 0 1)).length : Int) + ((if m_inside X y = -1 then [] else wy X (m_inside X y) 1).length : Int) + 1 := by
        rw [eL]; simp only [List.length_append, List.length_singleton]; omega
      rw [if_neg (fun hh => hh.elim (fun h9 => by omega) hnb), lw (m_ahead X y) (by omega) (by omega)]
      by_cases h2 : left < min ((wy X (m_ahead X y) (cond w 0 1)).length : Int) 1000
      · rw [if_pos h2]
        have g := ih w (m_ahead X y) left (by omega) (by omega) (by omega) l0 l1 (by omega)
        refine ⟨g.1, ?_⟩
        rw [eL, List.getElem?_append_left (by omega)]; exact g.2
      · rw [if_neg h2]
        have hA : ((wy X (m_ahead X y) (cond w 0 1)).length : Int) ≤ left ∧ ((wy X (m_ahead X y) (cond w 0 1)).length : Int) < 1000 := by omega
        have hmin : min ((wy X (m_ahead X y) (cond w 0 1)).length : Int) 1000 = ((wy X (m_ahead X y) (cond w 0 1)).length : Int) := by omega
        rw [hmin]
        by_cases hi : m_inside X y = -1
        · rw [if_neg (fun hh => hh.1 hi)]
          rw [if_pos hi] at hlen
          have hl : left = ((wy X (m_ahead X y) (cond w 0 1)).length : Int) := by
            have : ((([] : List Int).length : Nat) : Int) = 0 := rfl
            omega
          refine ⟨⟨h0, hE⟩, ?_⟩
          rw [eL, if_pos hi, List.getElem?_append_right (by omega), List.nil_append, show left.toNat - (wy X (m_ahead X y) (cond w 0 1)).length = 0 by omega]; rfl
        · have lz := (ln (m_inside X y) (by omega) (by omega)).2
          rw [if_neg hi] at hlen
          rw [lz]
          by_cases h3 : left - ((wy X (m_ahead X y) (cond w 0 1)).length : Int) < min ((wy X (m_inside X y) 1).length : Int) 1000
          · rw [if_pos ⟨hi, h3⟩]
            have g := ih false (m_inside X y) (left - ((wy X (m_ahead X y) (cond w 0 1)).length : Int)) (by omega) (by omega) (by omega) (by omega) (by omega) (by show _ < ((wy X (m_inside X y) 1).length : Int); omega)
            refine ⟨g.1, ?_⟩
            rw [eL, if_neg hi, List.getElem?_append_right (by omega), List.getElem?_append_left (by omega), show left.toNat - (wy X (m_ahead X y) (cond w 0 1)).length = (left - ((wy X (m_ahead X y) (cond w 0 1)).length : Int)).toNat by omega]
            exact g.2
          · rw [if_neg (fun hh => h3 hh.2)]
            refine ⟨⟨h0, hE⟩, ?_⟩
            rw [eL, if_neg hi, List.getElem?_append_right (by omega), List.getElem?_append_right (by omega), show left.toNat - (wy X (m_ahead X y) (cond w 0 1)).length - (wy X (m_inside X y) 1).length = 0 by omega]; rfl
/-! the reference's stack -/
def exX (X : Md) (v : Int) : List Int := if v % 4 = 2 then [prX X (v / 4)] else wy X (v / 4) (v % 4)
def stL (X : Md) (S : Int → Int) : Nat → List Int
  | 0 => []
  | n + 1 => exX X (S (n : Int)) ++ stL X S n
theorem stL_out {X : Md} {S : Int → Int} {k v : Int} (n : Nat) (hk : (n : Int) ≤ k) : stL X (up S k v) n = stL X S n := by
  induction n with
  | zero => rfl
  | succ n ih =>
    unfold stL
    rw [ih (by omega), up_n _ _ (by omega)]
def spJ (X : Md) (x : Int) (s : Sg) : Prop := spI x s ∧ ∃ pre : List Int, (pre.length : Int) = s.2.2.2 ∧ pre ++ stL X s.1 s.2.1.toNat = wy X x 0 ∧ ∀ j : Nat, j < pre.length → pre[j]? = some (s.2.2.1 (j : Int))
theorem spJ_step {X : Md} {x : Int} {s : Sg} (hM : mOk X) (hw : wOrd X) (hx : 0 ≤ x ∧ x < m_entries X) (h : spJ X x s) (h0 : 0 < s.2.1) (ht : s.2.2.2 < 1000) : spJ X x (spStep X s) := by
  obtain ⟨hI, pre, p1, p2, p3⟩ := h
  have hE := hM.2.2.2.2.2.2.2.2.1
  have hsw : spW X x := fun i i0 i1 => hw i i0 (by omega)
  have ok := spStep_ok hM (by omega) hsw hI h0 ht
  have a := hI.2.2.1 (s.2.1 - 1) (by omega) (by omega)
  refine ⟨ok.1, ?_⟩
  have hst : stL X s.1 s.2.1.toNat = exX X (s.1 (s.2.1 - 1)) ++ stL X s.1 (s.2.1 - 1).toNat := by
    rw [show s.2.1.toNat = (s.2.1 - 1).toNat + 1 by omega]
    show exX X (s.1 (((s.2.1 - 1).toNat : Nat) : Int)) ++ _ = _
    rw [show (((s.2.1 - 1).toNat : Nat) : Int) = s.2.1 - 1 by omega]
  rw [hst] at p2
  unfold spStep
  by_cases hc : s.1 (s.2.1 - 1) % 4 = 2 ∨ spT X (s.1 (s.2.1 - 1) / 4) (s.1 (s.2.1 - 1) % 4)
  · rw [if_pos hc]
    have hex : exX X (s.1 (s.2.1 - 1)) = [prX X (s.1 (s.2.1 - 1) / 4)] := by
      unfold exX
      by_cases h2 : s.1 (s.2.1 - 1) % 4 = 2
      · rw [if_pos h2]
      · rw [if_neg h2]; exact wy_t hw (by omega) (by omega) (hc.resolve_left h2)
    rw [hex] at p2
    refine ⟨pre ++ [prX X (s.1 (s.2.1 - 1) / 4)], ?_, ?_, fun j hj => ?_⟩
    · show ((pre ++ [prX X (s.1 (s.2.1 - 1) / 4)]).length : Int) = s.2.2.2 + 1
      rw [List.length_append]; simp only [List.length_singleton]; omega
    · rw [List.append_assoc]; exact p2
    · show (pre ++ [prX X (s.1 (s.2.1 - 1) / 4)])[j]? = some (up s.2.2.1 s.2.2.2 (10 * m_node X (s.1 (s.2.1 - 1) / 4) + m_fact X (s.1 (s.2.1 - 1) / 4)) (j : Int))
      rw [List.length_append] at hj
      simp only [List.length_singleton] at hj
      by_cases hlt : j < pre.length
      · rw [List.getElem?_append_left hlt, up_n _ _ (by omega)]; exact p3 j hlt
      · rw [List.getElem?_append_right (by omega), show j - pre.length = 0 by omega, up_a, if_pos (by omega)]; rfl
  · rw [if_neg hc]
    have h2 : ¬ s.1 (s.2.1 - 1) % 4 = 2 := fun hh => hc (Or.inl hh)
    have hnt : ¬ spT X (s.1 (s.2.1 - 1) / 4) (s.1 (s.2.1 - 1) % 4) := fun hh => hc (Or.inr hh)
    have hna : m_ahead X (s.1 (s.2.1 - 1) / 4) ≠ -1 := fun hh => hnt (Or.inl hh)
    have wo := hw (s.1 (s.2.1 - 1) / 4) (by omega) (by omega)
    have hex : exX X (s.1 (s.2.1 - 1)) = wy X (m_ahead X (s.1 (s.2.1 - 1) / 4)) (s.1 (s.2.1 - 1) % 4) ++ ((if m_inside X (s.1 (s.2.1 - 1) / 4) = -1 then [] else wy X (m_inside X (s.1 (s.2.1 - 1) / 4)) 1) ++ [prX X (s.1 (s.2.1 - 1) / 4)]) := by
      unfold exX
      rw [if_neg h2]; exact wy_o hw (by omega) (by omega) hnt
    generalize hv : s.1 (s.2.1 - 1) = v at a h2 hnt hna wo hex p2 ⊢
    have n1 : s.2.1 - 1 + 1 = s.2.1 := by omega
    have ea : exX X (4 * m_ahead X (v / 4) + v % 4) = wy X (m_ahead X (v / 4)) (v % 4) := by
      unfold exX
      rw [show (4 * m_ahead X (v / 4) + v % 4) % 4 = v % 4 by omega, show (4 * m_ahead X (v / 4) + v % 4) / 4 = m_ahead X (v / 4) by omega, if_neg h2]
    have ei : exX X (4 * (v / 4) + 2) = [prX X (v / 4)] := by
      unfold exX
      rw [if_pos (by omega), show (4 * (v / 4) + 2) / 4 = v / 4 by omega]
    have ez : exX X (4 * m_inside X (v / 4) + 1) = wy X (m_inside X (v / 4)) 1 := by
      unfold exX
      rw [if_neg (by omega), show (4 * m_inside X (v / 4) + 1) / 4 = m_inside X (v / 4) by omega, show (4 * m_inside X (v / 4) + 1) % 4 = 1 by omega]
    unfold spOpen
    by_cases hi : m_inside X (v / 4) = -1
    · rw [if_pos hi]
      rw [hex, if_pos hi] at p2
      refine ⟨pre, p1, ?_, p3⟩
      show pre ++ stL X (up (up s.1 (s.2.1 - 1) (4 * (v / 4) + 2)) (s.2.1 - 1 + 1) (4 * m_ahead X (v / 4) + v % 4)) (s.2.1 - 1 + 1 + 1).toNat = _
      rw [← p2, show (s.2.1 - 1 + 1 + 1).toNat = (s.2.1 - 1).toNat + 1 + 1 by omega]
      have q1 : (((s.2.1 - 1).toNat + 1 : Nat) : Int) = s.2.1 - 1 + 1 := by omega
      have q0 : (((s.2.1 - 1).toNat : Nat) : Int) = s.2.1 - 1 := by omega
      show pre ++ (exX X (up (up s.1 (s.2.1 - 1) (4 * (v / 4) + 2)) (s.2.1 - 1 + 1) (4 * m_ahead X (v / 4) + v % 4) (((s.2.1 - 1).toNat + 1 : Nat) : Int)) ++ (exX X (up (up s.1 (s.2.1 - 1) (4 * (v / 4) + 2)) (s.2.1 - 1 + 1) (4 * m_ahead X (v / 4) + v % 4) (((s.2.1 - 1).toNat : Nat) : Int)) ++ stL X (up (up s.1 (s.2.1 - 1) (4 * (v / 4) + 2)) (s.2.1 - 1 + 1) (4 * m_ahead X (v / 4) + v % 4)) (s.2.1 - 1).toNat)) = _
      rw [q1, q0, up_s, up_n _ _ (show s.2.1 - 1 ≠ s.2.1 - 1 + 1 by omega), up_s, stL_out _ (by omega), stL_out _ (by omega), ea, ei]
      simp only [List.append_assoc, List.nil_append]
    · rw [if_neg hi]
      rw [hex, if_neg hi] at p2
      refine ⟨pre, p1, ?_, p3⟩
      show pre ++ stL X (up (up (up s.1 (s.2.1 - 1) (4 * (v / 4) + 2)) (s.2.1 - 1 + 1) (4 * m_inside X (v / 4) + 1)) (s.2.1 - 1 + 1 + 1) (4 * m_ahead X (v / 4) + v % 4)) (s.2.1 - 1 + 1 + 1 + 1).toNat = _
      rw [← p2, show (s.2.1 - 1 + 1 + 1 + 1).toNat = (s.2.1 - 1).toNat + 1 + 1 + 1 by omega]
      have q2 : (((s.2.1 - 1).toNat + 1 + 1 : Nat) : Int) = s.2.1 - 1 + 1 + 1 := by omega
      have q1 : (((s.2.1 - 1).toNat + 1 : Nat) : Int) = s.2.1 - 1 + 1 := by omega
      have q0 : (((s.2.1 - 1).toNat : Nat) : Int) = s.2.1 - 1 := by omega
      generalize hS : up (up (up s.1 (s.2.1 - 1) (4 * (v / 4) + 2)) (s.2.1 - 1 + 1) (4 * m_inside X (v / 4) + 1)) (s.2.1 - 1 + 1 + 1) (4 * m_ahead X (v / 4) + v % 4) = S
      show pre ++ (exX X (S (((s.2.1 - 1).toNat + 1 + 1 : Nat) : Int)) ++ (exX X (S (((s.2.1 - 1).toNat + 1 : Nat) : Int)) ++ (exX X (S (((s.2.1 - 1).toNat : Nat) : Int)) ++ stL X S (s.2.1 - 1).toNat))) = _
      rw [q2, q1, q0, ← hS, up_s, up_n _ _ (show s.2.1 - 1 + 1 ≠ s.2.1 - 1 + 1 + 1 by omega), up_s, up_n _ _ (show s.2.1 - 1 ≠ s.2.1 - 1 + 1 + 1 by omega), up_n _ _ (show s.2.1 - 1 ≠ s.2.1 - 1 + 1 by omega), up_s, stL_out _ (by omega), stL_out _ (by omega), stL_out _ (by omega), ea, ei, ez]
      simp only [List.append_assoc]
theorem spRun_end {X : Md} {x : Int} (hM : mOk X) (hw : wOrd X) (hx : 0 ≤ x ∧ x < m_entries X) (k : Nat) : ∀ s : Sg, spJ X x s → spMu s < k → spJ X x (spRun X k s) ∧ ((spRun X k s).2.1 ≤ 0 ∨ 1000 ≤ (spRun X k s).2.2.2) := by
  have hE := hM.2.2.2.2.2.2.2.2.1
  have hsw : spW X x := fun i i0 i1 => hw i i0 (by omega)
  induction k with
  | zero => intro s h hm; have := spMu_r h.1 (by omega); have := h.1.2.1; omega
  | succ k ih =>
    intro s h hm
    unfold spRun
    by_cases hc : 0 < s.2.1 ∧ s.2.2.2 < 1000
    · rw [if_pos hc]
      have g := spStep_ok hM (by omega) hsw h.1 hc.1 hc.2
      exact ih _ (spJ_step hM hw hx h hc.1 hc.2) (by have := g.2; omega)
    · rw [if_neg hc]; exact ⟨h, by omega⟩
theorem spell_sim {X : Md} {x : Int} (hM : mOk X) (hw : wOrd X) (hx : 0 ≤ x ∧ x < m_entries X) : m_told (mSp x X) = min ((wy X x 0).length : Int) 1000 ∧ ∀ i : Int, 0 ≤ i → i < m_told (mSp x X) → (wy X x 0)[i.toNat]? = some (m_pairs (mSp x X) i) := by
  have hE := hM.2.2.2.2.2.2.2.2.1
  have h0 : spJ X x (up (m_stack X) 0 (4 * x), 1, m_pairs X, 0) := by
    refine ⟨spI_0 hM (by omega), [], rfl, ?_, fun j hj => absurd hj (by simp)⟩
    show [] ++ (exX X (up (m_stack X) 0 (4 * x) ((0 : Nat) : Int)) ++ []) = _
    have : up (m_stack X) 0 (4 * x) ((0 : Nat) : Int) = 4 * x := up_s _ _ _
    rw [this, List.nil_append, List.append_nil]
    unfold exX
    rw [if_neg (by omega), show 4 * x / 4 = x by omega, show 4 * x % 4 = 0 by omega]
  have mu : (1000 - (0 : Int)) * 1537 ≤ spMu (up (m_stack X) 0 (4 * x), 1, m_pairs X, 0) ∧ spMu (up (m_stack X) 0 (4 * x), 1, m_pairs X, 0) ≤ (1000 - (0 : Int)) * 1537 + 1535 := spMu_r (spI_0 hM (by omega)) (by omega)
  obtain ⟨⟨hI, pre, p1, p2, p3⟩, hend⟩ := spRun_end hM hw hx 1600000 _ h0 (by omega)
  have e1 : m_told (mSp x X) = (spAll X x).2.2.2 := rfl
  have e2 : m_pairs (mSp x X) = (spAll X x).2.2.1 := rfl
  change spI x (spAll X x) at hI
  change (pre.length : Int) = (spAll X x).2.2.2 at p1
  change pre ++ stL X (spAll X x).1 (spAll X x).2.1.toNat = wy X x 0 at p2
  change ∀ j : Nat, j < pre.length → pre[j]? = some ((spAll X x).2.2.1 (j : Int)) at p3
  change (spAll X x).2.1 ≤ 0 ∨ 1000 ≤ (spAll X x).2.2.2 at hend
  have hlen : ((wy X x 0).length : Int) = (pre.length : Int) + ((stL X (spAll X x).1 (spAll X x).2.1.toNat).length : Int) := by
    rw [← p2, List.length_append]; omega
  have h2 := hI.2.1
  rw [e1, e2]
  refine ⟨?_, fun i i0 i1 => ?_⟩
  · rcases hend with hh | hh
    · have : (spAll X x).2.1.toNat = 0 := by omega
      rw [this] at hlen
      have : ((stL X (spAll X x).1 0).length : Int) = 0 := rfl
      omega
    · omega
  · rw [← p2, List.getElem?_append_left (by omega), p3 i.toNat (by omega), show ((i.toNat : Nat) : Int) = i by omega]
/-! the first one with n, f -/
theorem first_sim {N : Int → Int} {T : Tb} {X : Md} {n f : Int} (h : fR N T X) (hn : 0 ≤ n ∧ n < 24) (hf : 0 ≤ f ∧ f < 8) : (tFirst T n f = -1 ∧ mFst X n f = 1537) ∨ ((0 ≤ tFirst T n f ∧ tFirst T n f < m_entries X) ∧ mFst X n f = tFirst T n f + 1) := by
  have hE := h.1.2.1.2.2.2.2.2.2.2.2.1
  unfold tFirst mFst
  refine it_rel (f := fun a r => if tb (t_seen T (n * 8 + a)) f = true then (if r = -1 then t_placeOf T ((n * 8 + a) * 8 + f) else min r (t_placeOf T ((n * 8 + a) * 8 + f))) else r) (g := mFstF X n f) (fun _ r x => (r = -1 ∧ x = 1537) ∨ ((0 ≤ r ∧ r < m_entries X) ∧ x = r + 1)) (b := 8) 8 0 (-1) 1537 (by omega) (Or.inl ⟨rfl, rfl⟩) (fun a r x a0 a1 hI => ?_)
  have hs := h.2.2.2 (n * 8 + a) f (by omega) (by omega) hf.1 hf.2
  have hp := h.1.2.2.2.1.2 ((8 * n + a) * 8 + f) (by omega) (by omega)
  have ho := h.2.2.1.2.2 ((8 * n + a) * 8 + f) (by omega) (by omega)
  rw [show (n * 8 + a) * 8 + f = (8 * n + a) * 8 + f by omega] at hs ⊢
  unfold mFstF
  by_cases hz : m_place X ((8 * n + a) * 8 + f) = 0
  · show ((if tb (t_seen T (n * 8 + a)) f = true then _ else r) = -1 ∧ _) ∨ _
    rw [if_neg (fun hh => hs.mp hh hz), if_neg (by omega)]; exact hI
  · have ho := ho hz
    rw [if_pos (hs.mpr hz)]
    have hp2 : 1 ≤ m_place X ((8 * n + a) * 8 + f) ∧ m_place X ((8 * n + a) * 8 + f) ≤ m_entries X := by omega
    rcases hI with ⟨h1, h2⟩ | ⟨h1, h2⟩
    · rw [if_pos h1, if_pos (by omega)]; right; omega
    · rw [if_neg (by omega)]
      right
      by_cases hc : 0 < m_place X ((8 * n + a) * 8 + f) ∧ m_place X ((8 * n + a) * 8 + f) < x
      · rw [if_pos hc]; omega
      · rw [if_neg hc]; omega
theorem wit_sim {N : Int → Int} {T : Tb} {X : Md} {n f i : Int} (h : fR N T X) (hn : 0 ≤ n ∧ n < 24) (hf : 0 ≤ f ∧ f < 8) (hi : -1 ≤ i) : fWitA T n f i = if 1536 < mFst X n f then -1 else mWitA (mSp (mFst X n f - 1) X) i := by
  have hE := h.1.2.1.2.2.2.2.2.2.2.2.1
  have hw := fR_ord h.1
  unfold fWitA
  rcases first_sim h hn hf with ⟨h1, h2⟩ | ⟨h1, h2⟩
  · rw [if_pos h1, if_pos (by omega)]
  · rw [if_neg (show ¬ tFirst T n f = -1 by omega), if_neg (show ¬ 1536 < mFst X n f by omega), h2, show tFirst T n f + 1 - 1 = tFirst T n f by omega]
    generalize tFirst T n f = x at h1
    obtain ⟨s1, s2⟩ := spell_sim h.1.2.1 hw h1
    have lw := (len_sim h (x.toNat + 1) x h1.1 h1.2 (by omega)).1
    unfold mWitA
    rw [lw, ← s1]
    by_cases c1 : i = -1
    · rw [if_pos c1, if_pos c1]
    · rw [if_neg c1, if_neg c1]
      by_cases c2 : i < m_told (mSp x X)
      · rw [if_pos c2, if_pos c2]
        have p := pair_sim h 1536 true x i h1.1 h1.2 (by omega) (by omega) (by omega) (by show i < ((wy X x 0).length : Int); omega)
        have q := s2 i (by omega) c2
        have e : prX X (tPair T 1536 true x i) = m_pairs (mSp x X) i := Option.some.inj (p.2.symm.trans q)
        have ff := fR_fact h p.1
        unfold tPairOf
        rw [← e]
        show 10 * tNode T (tPair T 1536 true x i) + tFb T (tPair T 1536 true x i) = 10 * m_node X (tPair T 1536 true x i) + m_fact X (tPair T 1536 true x i)
        rw [ff.1, ff.2.2]
      · rw [if_neg c2, if_neg c2]

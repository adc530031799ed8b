/-! SIMULATION: reading THE TEXT -/
theorem dgs_n (len : Int) (b : Int → Int) (p : Int) : (0 < (dgs len b 3 p 0 0).2.2) ↔ isFig len b p := by
  by_cases h : isFig len b p
  · have e : dgs len b 3 p 0 0 = dgs len b 2 (p + 1) (10 * 0 + b p - 48) (0 + 1) := if_pos h
    have r := (dgs_r len b 2 (p + 1) (10 * 0 + b p - 48) (0 + 1)).2.2.1
    rw [e]
    exact ⟨fun _ => h, fun _ => by omega⟩
  · have e : dgs len b 3 p 0 0 = (p, 0, 0) := if_neg h
    rw [e]
    exact ⟨fun hh => absurd (show (0 : Int) < 0 from hh) (by omega), fun hh => absurd hh h⟩
/-- one number: the class (behind its blanks, at p) and the reference -/
theorem num_sim {len : Int} {b : Int → Int} {p : Int} : (decide (0 < (dgs len b 3 p 0 0).2.2 ∧ ¬ isFig len b (dgs len b 3 p 0 0).1) = true → rNum len b p = ((dgs len b 3 p 0 0).2.1, skT len b (dgs len b 3 p 0 0).1) ∧ rNum len b p ≠ (-1, (rNum len b p).2)) ∧ (decide (0 < (dgs len b 3 p 0 0).2.2 ∧ ¬ isFig len b (dgs len b 3 p 0 0).1) = false → rNum len b p = (-1, (dgs len b 3 p 0 0).1)) := by
  have hv := dgs_v len b 3 p 0 0 0 (by decide) (by decide)
  unfold rNum
  constructor
  · intro h
    have h := of_decide_eq_true h
    rw [if_pos ((dgs_n len b p).mp h.1), if_neg h.2]
    refine ⟨rfl, fun hh => ?_⟩
    have := congrArg Prod.fst hh
    have h1 : (dgs len b 3 p 0 0).2.1 = -1 := this
    omega
  · intro h
    have h := of_decide_eq_false h
    by_cases hf : isFig len b p
    · rw [if_pos hf]
      have : isFig len b (dgs len b 3 p 0 0).1 := Classical.byContradiction (fun hc => h ⟨(dgs_n len b p).mpr hf, hc⟩)
      rw [if_pos this]
    · rw [if_neg hf]
      have e : dgs len b 3 p 0 0 = (p, 0, 0) := if_neg hf
      rw [e]
theorem nums_sim {len : Int} {b : Int → Int} {wr : Int} (k : Nat) : ∀ (i : Int) (X : Tx) (O : Int → Int), x_length X = len → x_bytes X = b → 1 ≤ i →
    (xNums (5 * wr) k i X).1 = (rNums len b wr k (i - 1) (skT len b (x_place X)) O).1 ∧ (x_length (xNums (5 * wr) k i X).2 = len ∧ x_bytes (xNums (5 * wr) k i X).2 = b ∧ x_orders (xNums (5 * wr) k i X).2 = x_orders X) ∧
    ((xNums (5 * wr) k i X).1 = false → x_place (xNums (5 * wr) k i X).2 = (rNums len b wr k (i - 1) (skT len b (x_place X)) O).2.1) ∧
    ((xNums (5 * wr) k i X).1 = true → skT len b (x_place (xNums (5 * wr) k i X).2) = (rNums len b wr k (i - 1) (skT len b (x_place X)) O).2.1 ∧ ∀ j : Int, i ≤ j → j < i + k → x_parts (xNums (5 * wr) k i X).2 (5 * wr + j) = (rNums len b wr k (i - 1) (skT len b (x_place X)) O).2.2 (5 * wr + j)) ∧
    (∀ j : Int, j < 5 * wr + i → x_parts (xNums (5 * wr) k i X).2 j = x_parts X j ∧ (rNums len b wr k (i - 1) (skT len b (x_place X)) O).2.2 j = O j) := by
  induction k with
  | zero =>
    intro i X O hl hb hi
    exact ⟨rfl, ⟨hl, hb, rfl⟩, fun h => absurd (show true = false from h) (by decide), fun _ => ⟨rfl, fun j j0 j1 => absurd j1 (by omega)⟩, fun _ _ => ⟨rfl, rfl⟩⟩
  | succ k ih =>
    intro i X O hl hb hi
    have sp : x_place (xSkip X) = skT len b (x_place X) := by rw [← hl, ← hb]; rfl
    have sD : xDg (xSkip X) = dgs len b 3 (skT len b (x_place X)) 0 0 := by rw [← hl, ← hb]; rfl
    have hN1 : (xNumber (5 * wr + i) (xSkip X)).1 = decide (0 < (dgs len b 3 (skT len b (x_place X)) 0 0).2.2 ∧ ¬ isFig len b (dgs len b 3 (skT len b (x_place X)) 0 0).1) := by rw [← hl, ← hb]; rfl
    have hN2 : (xNumber (5 * wr + i) (xSkip X)).2 = xs_parts (xs_place (xSkip X) (dgs len b 3 (skT len b (x_place X)) 0 0).1) (up (x_parts X) (5 * wr + i) (dgs len b 3 (skT len b (x_place X)) 0 0).2.1) := by rw [← hl, ← hb]; rfl
    have ns := num_sim (len := len) (b := b) (p := skT len b (x_place X))
    have hx : xNums (5 * wr) (k + 1) i X = if (xNumber (5 * wr + i) (xSkip X)).1 = true then xNums (5 * wr) k (i + 1) (xNumber (5 * wr + i) (xSkip X)).2 else (false, (xNumber (5 * wr + i) (xSkip X)).2) := rfl
    have hr : rNums len b wr (k + 1) (i - 1) (skT len b (x_place X)) O = if (rNum len b (skT len b (x_place X))).1 = -1 then (false, (rNum len b (skT len b (x_place X))).2, O) else rNums len b wr k (i - 1 + 1) (rNum len b (skT len b (x_place X))).2 (up O (5 * wr + 1 + (i - 1)) (rNum len b (skT len b (x_place X))).1) := rfl
    rw [hx, hr, hN1]
    generalize hd : decide (0 < (dgs len b 3 (skT len b (x_place X)) 0 0).2.2 ∧ ¬ isFig len b (dgs len b 3 (skT len b (x_place X)) 0 0).1) = dd at ns
    cases dd with
    | true =>
      obtain ⟨n1, n2⟩ := ns.1 rfl
      have nne : (rNum len b (skT len b (x_place X))).1 ≠ -1 := fun hh => n2 (Prod.ext hh rfl)
      rw [if_pos rfl, if_neg nne, n1, hN2]
      have e1 : i - 1 + 1 = i + 1 - 1 := by omega
      have e2 : 5 * wr + 1 + (i - 1) = 5 * wr + i := by omega
      rw [e1, e2]
      have g := ih (i + 1) (xs_parts (xs_place (xSkip X) (dgs len b 3 (skT len b (x_place X)) 0 0).1) (up (x_parts X) (5 * wr + i) (dgs len b 3 (skT len b (x_place X)) 0 0).2.1)) (up O (5 * wr + i) (dgs len b 3 (skT len b (x_place X)) 0 0).2.1) hl hb (by omega)
      obtain ⟨g1, g2, g3, g4, g5⟩ := g
      refine ⟨g1, g2, g3, fun ht => ⟨(g4 ht).1, fun j j0 j1 => ?_⟩, fun j hj => ?_⟩
      · by_cases hj : j = i
        · subst hj
          have := g5 (5 * wr + j) (by omega)
          exact this.1.trans ((up_s _ _ _).trans (this.2.trans (up_s _ _ _)).symm)
        · exact (g4 ht).2 j (by omega) (by omega)
      · have := g5 j (by omega)
        exact ⟨this.1.trans (up_n _ _ (by omega)), this.2.trans (up_n _ _ (by omega))⟩
    | false =>
      have n1 := ns.2 rfl
      rw [if_neg (by decide), n1, if_pos rfl, hN2]
      exact ⟨rfl, ⟨hl, hb, rfl⟩, fun _ => rfl, fun h => absurd (show false = true from h) (by decide), fun j hj => ⟨up_n _ _ (by omega), rfl⟩⟩
theorem order_sim {len : Int} {b : Int → Int} {wr : Int} {X : Tx} {O : Int → Int} (hl : x_length X = len) (hb : x_bytes X = b) (hp : x_place X < len) :
    (xOrder (wr * 5) X).1 = (rReads len b (x_place X) O wr).1 ∧ (x_length (xOrder (wr * 5) X).2 = len ∧ x_bytes (xOrder (wr * 5) X).2 = b ∧ x_orders (xOrder (wr * 5) X).2 = x_orders X) ∧
    ((xOrder (wr * 5) X).1 = false → x_place (xOrder (wr * 5) X).2 = (rReads len b (x_place X) O wr).2.1) ∧
    ((xOrder (wr * 5) X).1 = true → x_place (xSkip (xOrder (wr * 5) X).2) = (rReads len b (x_place X) O wr).2.1 ∧ oR (xOrder (wr * 5) X).2 (rReads len b (x_place X) O wr).2.2.1 wr ∧ (rReads len b (x_place X) O wr).2.2.2 = wr + 1) ∧
    (∀ j : Int, j < 5 * wr → x_parts (xOrder (wr * 5) X).2 j = x_parts X j ∧ (rReads len b (x_place X) O wr).2.2.1 j = O j) := by
  have hc : bAt len b (x_place X) = b (x_place X) := if_pos hp
  rw [show wr * 5 = 5 * wr by omega]
  unfold xOrder rReads
  rw [hb, hc]
  by_cases hz : xBehind (b (x_place X)) = -1
  · rw [if_pos hz, if_pos hz]
    exact ⟨rfl, ⟨hl, hb, rfl⟩, fun _ => rfl, fun h => absurd (show false = true from h) (by decide), fun _ _ => ⟨rfl, rfl⟩⟩
  · rw [if_neg hz, if_neg hz]
    have hr := xBehind_r (b (x_place X))
    have xn : xN (5 * wr) X = xNums (5 * wr) (xBehind (b (x_place X))).toNat 1 (xLetter (5 * wr) X) := by
      show xNums (5 * wr) (xBehind (x_bytes X (x_place X))).toNat 1 (xLetter (5 * wr) X) = _
      rw [hb]
    have rn : rN len b (x_place X) O wr = rNums len b wr (xBehind (b (x_place X))).toNat (1 - 1) (skT len b (x_place (xLetter (5 * wr) X))) (up O (5 * wr) (b (x_place X))) := by
      show rNums len b wr (xBehind (bAt len b (x_place X))).toNat 0 (skT len b (x_place X + 1)) (up O (5 * wr) (bAt len b (x_place X))) = _
      rw [hc]; rfl
    rw [xn, rn]
    obtain ⟨g1, ⟨g2a, g2b, g2c⟩, g3, g4, g5⟩ := nums_sim (len := len) (b := b) (wr := wr) (xBehind (b (x_place X))).toNat 1 (xLetter (5 * wr) X) (up O (5 * wr) (b (x_place X))) hl hb (by omega)
    have hle : x_parts (xLetter (5 * wr) X) = up (x_parts X) (5 * wr) (b (x_place X)) := by rw [← hb]; rfl
    have hor : x_orders (xLetter (5 * wr) X) = x_orders X := rfl
    rw [hor] at g2c
    rw [hle] at g5
    generalize xNums (5 * wr) (xBehind (b (x_place X))).toNat 1 (xLetter (5 * wr) X) = A at g1 g2a g2b g2c g3 g4 g5
    generalize rNums len b wr (xBehind (b (x_place X))).toNat (1 - 1) (skT len b (x_place (xLetter (5 * wr) X))) (up O (5 * wr) (b (x_place X))) = B at g1 g3 g4 g5
    have keep : ∀ j : Int, j < 5 * wr → x_parts A.2 j = x_parts X j ∧ B.2.2 j = O j := fun j hj => by
      have := g5 j (by omega)
      exact ⟨this.1.trans (up_n _ _ (by omega)), this.2.trans (up_n _ _ (by omega))⟩
    cases ha : A.1 with
    | false =>
      have hB : B.1 = false := g1.symm.trans ha
      rw [if_neg (by decide), hB, if_neg (by decide)]
      exact ⟨rfl, ⟨g2a, g2b, g2c⟩, fun _ => g3 ha, fun h => absurd (show false = true from h) (by decide), keep⟩
    | true =>
      have hB : B.1 = true := g1.symm.trans ha
      obtain ⟨q1, q2⟩ := g4 ha
      rw [if_pos rfl, hB, if_pos rfl]
      have hsk : x_place (xSkip A.2) = B.2.1 := by rw [← q1, ← g2a, ← g2b]; rfl
      have hor : oR A.2 B.2.2 wr := by
        have p0 := g5 (5 * wr) (by omega)
        have l0 : B.2.2 (5 * wr) = b (x_place X) := p0.2.trans (up_s _ _ _)
        refine ⟨?_, by rw [l0]; exact hz, fun j j0 j1 => ?_⟩
        · rw [show wr * 5 + 0 = 5 * wr by omega, l0]; exact p0.1.trans (up_s _ _ _)
        · rw [l0] at j1
          rw [show wr * 5 + j = 5 * wr + j by omega]
          exact q2 j j0 (by omega)
      unfold xEnd
      rw [hsk, show x_length (xSkip A.2) = len from g2a, show x_bytes (xSkip A.2) = b from g2b]
      by_cases he : B.2.1 < len ∧ b B.2.1 = 59
      · rw [if_pos he, show bAt len b B.2.1 = b B.2.1 from if_pos he.1, if_pos he.2]
        refine ⟨rfl, ⟨g2a, g2b, g2c⟩, fun h => absurd (show true = false from h) (by decide), fun _ => ⟨?_, hor, rfl⟩, keep⟩
        show skT (x_length A.2) (x_bytes A.2) (B.2.1 + 1) = _
        rw [g2a, g2b]
      · rw [if_neg he]
        have h59 : ¬ bAt len b B.2.1 = 59 := by
          intro hh
          by_cases hlt : B.2.1 < len
          · rw [show bAt len b B.2.1 = b B.2.1 from if_pos hlt] at hh; exact he ⟨hlt, hh⟩
          · rw [show bAt len b B.2.1 = -1 from if_neg hlt] at hh; omega
        rw [if_neg h59]
        exact ⟨rfl, ⟨g2a, g2b, g2c⟩, fun _ => hsk, fun h => absurd (show false = true from h) (by decide), keep⟩
theorem oR_keep {X X' : Tx} {O O' : Int → Int} {wr k : Int} (h : oR X O k) (hk : k < wr) (hx : ∀ j : Int, j < 5 * wr → x_parts X' j = x_parts X j ∧ O' j = O j) : oR X' O' k := by
  obtain ⟨h1, h2, h3⟩ := h
  have e0 := hx (k * 5 + 0) (by omega)
  have e1 := hx (5 * k) (by omega)
  have hr := xBehind_r (O (5 * k))
  refine ⟨e0.1.trans (h1.trans e1.2.symm), by rw [e1.2]; exact h2, fun j j0 j1 => ?_⟩
  rw [e1.2] at j1
  have f0 := hx (k * 5 + j) (by omega)
  have f1 := hx (5 * k + j) (by omega)
  exact f0.1.trans ((h3 j j0 j1).trans f1.2.symm)
theorem loop_sim {len : Int} {b : Int → Int} (hlen : 0 ≤ len ∧ len ≤ 120) (hb9 : ∀ j : Int, 0 ≤ j → j < 120 → 0 ≤ b j ∧ b j ≤ 127) (k : Nat) : ∀ (m : Nat) (X : Tx) (O : Int → Int), x_length X = len → x_bytes X = b → x_orders X + k = 60 → 0 ≤ x_orders X → 2 * x_orders X ≤ x_place X → x_place X < len → len + 1 ≤ x_place X + m → oOk O → (∀ j : Int, 0 ≤ j → j < x_orders X → oR X O j) →
    ((rAll len b m (x_place X) O (x_orders X)).1 = true → (xLoop (-1) k X).1 = -1 ∧ x_orders (xLoop (-1) k X).2 = (rAll len b m (x_place X) O (x_orders X)).2.2.2 ∧ ∀ j : Int, 0 ≤ j → j < (rAll len b m (x_place X) O (x_orders X)).2.2.2 → oR (xLoop (-1) k X).2 (rAll len b m (x_place X) O (x_orders X)).2.2.1 j) ∧
    ((rAll len b m (x_place X) O (x_orders X)).1 = false → (xLoop (-1) k X).1 = (rAll len b m (x_place X) O (x_orders X)).2.1 ∧ 0 ≤ (xLoop (-1) k X).1) := by
  induction k with
  | zero => intro m X O hl hb ho h0 h2 hp; omega
  | succ k ih =>
    intro m X O hl hb ho h0 h2 hp hm hO hR
    cases m with
    | zero => omega
    | succ m =>
      obtain ⟨g1, ⟨g2a, g2b, g2c⟩, g3, g4, g5⟩ := order_sim (wr := x_orders X) (O := O) hl hb hp
      have q := rReads_q len b (x_place X) O (x_orders X) hb9 hlen.2 (by omega) hO
      have hx : xLoop (-1) (k + 1) X = if x_place X < x_length X then (if (xOrder (x_orders X * 5) X).1 = true then xLoop (-1) k (xNext (xOrder (x_orders X * 5) X).2) else (x_place (xOrder (x_orders X * 5) X).2, (xOrder (x_orders X * 5) X).2)) else (-1, X) := rfl
      have hr : rAll len b (m + 1) (x_place X) O (x_orders X) = if (rReads len b (x_place X) O (x_orders X)).1 = true ∧ (rReads len b (x_place X) O (x_orders X)).2.1 < len then rAll len b m (rReads len b (x_place X) O (x_orders X)).2.1 (rReads len b (x_place X) O (x_orders X)).2.2.1 (rReads len b (x_place X) O (x_orders X)).2.2.2 else rReads len b (x_place X) O (x_orders X) := rfl
      rw [hx, hr, if_pos (show x_place X < x_length X by omega)]
      generalize xOrder (x_orders X * 5) X = A at g1 g2a g2b g2c g3 g4 g5
      generalize rReads len b (x_place X) O (x_orders X) = B at g1 g3 g4 g5 q
      cases ha : A.1 with
      | false =>
        have hB : B.1 = false := g1.symm.trans ha
        rw [if_neg (show ¬ (false = true) by decide), if_neg (show ¬ (B.1 = true ∧ B.2.1 < len) from fun hh => absurd (hB.symm.trans hh.1) (by decide))]
        refine ⟨fun h => absurd (hB.symm.trans h) (by decide), fun _ => ⟨g3 ha, ?_⟩⟩
        have := q.1
        show 0 ≤ x_place A.2
        rw [g3 ha]; omega
      | true =>
        have hB : B.1 = true := g1.symm.trans ha
        obtain ⟨p1, p2, p3⟩ := g4 ha
        have qq := q.2.2.2.1 hB
        rw [if_pos (show true = true from rfl)]
        have n1 : x_place (xNext A.2) = B.2.1 := p1
        have n2 : x_orders (xNext A.2) = x_orders X + 1 := by
          show x_orders A.2 + 1 = _; rw [g2c]
        have n3 : x_length (xNext A.2) = len := g2a
        have n4 : x_bytes (xNext A.2) = b := g2b
        have n5 : x_parts (xNext A.2) = x_parts A.2 := rfl
        have hoR : ∀ j : Int, 0 ≤ j → j < x_orders X + 1 → oR (xNext A.2) B.2.2.1 j := by
          intro j j0 j1
          by_cases hj : j < x_orders X
          · exact oR_keep (wr := x_orders X) (hR j j0 hj) hj (fun i hi => by rw [n5]; exact g5 i hi)
          · have : j = x_orders X := by omega
            rw [this]; exact p2
        by_cases hlt : B.2.1 < len
        · rw [if_pos ⟨hB, hlt⟩]
          have r := ih m (xNext A.2) B.2.2.1 n3 n4 (by omega) (by omega) (by omega) (by omega) (by omega) q.2.2.1 (fun j j0 j1 => hoR j j0 (by omega))
          rw [n1, n2] at r
          rw [p3]; exact r
        · rw [if_neg (fun hh => hlt hh.2)]
          have hend : xLoop (-1) k (xNext A.2) = (-1, xNext A.2) := by
            cases k with
            | zero => rfl
            | succ k => exact if_neg (by rw [n1, n3]; exact hlt)
          rw [hend]
          refine ⟨fun _ => ⟨rfl, n2.trans p3.symm, fun j j0 j1 => hoR j j0 (by rw [p3] at j1; exact j1)⟩, fun h => absurd (hB.symm.trans h) (by decide)⟩
theorem read_sim {X : Tx} {O : Int → Int} {len : Int} {b : Int → Int} (hX : xOk X) (hl : x_length X = len) (hb : x_bytes X = b) (hO : oOk O) :
    ((rAll len b 121 (skT len b 0) O 0).1 = true → (xRead X).1 = -1 ∧ x_orders (xRead X).2 = (rAll len b 121 (skT len b 0) O 0).2.2.2 ∧ ∀ j : Int, 0 ≤ j → j < (rAll len b 121 (skT len b 0) O 0).2.2.2 → oR (xRead X).2 (rAll len b 121 (skT len b 0) O 0).2.2.1 j) ∧
    ((rAll len b 121 (skT len b 0) O 0).1 = false → (xRead X).1 = (rAll len b 121 (skT len b 0) O 0).2.1 ∧ 0 ≤ (xRead X).1) := by
  have h1 := hX.1
  have hbb := hX.2.2.1
  rw [hl] at h1
  rw [hb] at hbb
  have sq := skT_q len b 0 h1.1
  have s1 : x_place (xStart X) = skT len b 0 := by rw [← hl, ← hb]; rfl
  have s2 : x_length (xStart X) = len := hl
  have s3 : x_bytes (xStart X) = b := hb
  have s4 : x_orders (xStart X) = 0 := rfl
  unfold xRead
  rw [s1, hl]
  by_cases hp : len ≤ skT len b 0
  · rw [if_pos hp]
    have hx : xLoop len 60 (xStart X) = (len, xStart X) := if_neg (by rw [s1, s2]; omega)
    have hbr : rReads len b (skT len b 0) O 0 = (false, skT len b 0, O, 0) := by
      unfold rReads
      exact if_pos (by rw [show bAt len b (skT len b 0) = -1 from if_neg (by omega)]; rfl)
    have hr : rAll len b 121 (skT len b 0) O 0 = (false, skT len b 0, O, 0) := by
      show (if (rReads len b (skT len b 0) O 0).1 = true ∧ (rReads len b (skT len b 0) O 0).2.1 < len then rAll len b 120 (rReads len b (skT len b 0) O 0).2.1 (rReads len b (skT len b 0) O 0).2.2.1 (rReads len b (skT len b 0) O 0).2.2.2 else rReads len b (skT len b 0) O 0) = _
      rw [hbr]
      exact if_neg (fun hh => absurd (show false = true from hh.1) (by decide))
    rw [hx, hr]
    exact ⟨fun h => absurd (show false = true from h) (by decide), fun _ => ⟨show len = skT len b 0 by omega, h1.1⟩⟩
  · rw [if_neg hp]
    have := loop_sim h1 hbb 60 121 (xStart X) O s2 s3 (by rw [s4]; rfl) (by rw [s4]; exact Int.le_refl _) (by rw [s4, s1]; omega) (by rw [s1]; omega) (by rw [s1]; omega) hO (fun j j0 j1 => absurd j1 (by rw [s4]; omega))
    rw [s1, s4] at this
    exact this

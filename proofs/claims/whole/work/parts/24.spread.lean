/-! Spread and Text: what their methods do, as functions -/
theorem bI_ne {z : Int} (h : z = 0 ∨ z = 1) : z = bI (z ≠ 0) := by
  rcases h with rfl | rfl <;> rfl
theorem bO_01 {a b : Int} (ha : a = 0 ∨ a = 1) (hb : b = 0 ∨ b = 1) : bO a b = 0 ∨ bO a b = 1 := by
  rcases ha with rfl | rfl <;> rcases hb with rfl | rfl <;> decide
theorem bO_z {a b : Int} (ha : a = 0 ∨ a = 1) (hb : b = 0 ∨ b = 1) : bO a b = 0 ↔ a = 0 ∧ b = 0 := by
  rcases ha with rfl | rfl <;> rcases hb with rfl | rfl <;> decide
abbrev uAdd (n x : Int) (U : Sp) : Sp := us_reached U (up (u_reached U) n (bO (u_reached U n) x))
def uGrew (n x : Int) (U : Sp) : Prop := bO (u_reached U n) x ≠ u_reached U n
def uS1 (P : Pg) (e : Int) (U : Sp) : Sp := uAdd (p_to P e) (pCarry P e 0 (u_reached U (p_from P e))) U
def uS2 (P : Pg) (e : Int) (U : Sp) : Sp := uAdd (p_entryOf P (p_callee P e)) (pCarry P e 1 (u_reached (uS1 P e U) (p_from P e))) (uS1 P e U)
def uS3 (P : Pg) (e : Int) (U : Sp) : Sp := uAdd (p_to P e) (pCarry P e 2 (u_reached (uS2 P e U) (p_exitOf P (p_callee P e)))) (uS2 P e U)
abbrev uG1 (P : Pg) (e : Int) (U : Sp) : Int := bI (bO (u_reached U (p_to P e)) (pCarry P e 0 (u_reached U (p_from P e))) ≠ u_reached U (p_to P e))
abbrev uG2 (P : Pg) (e : Int) (U : Sp) : Int := bI (bO (u_reached (uS1 P e U) (p_entryOf P (p_callee P e))) (pCarry P e 1 (u_reached (uS1 P e U) (p_from P e))) ≠ u_reached (uS1 P e U) (p_entryOf P (p_callee P e)))
abbrev uG3 (P : Pg) (e : Int) (U : Sp) : Int := bI (bO (u_reached (uS2 P e U) (p_to P e)) (pCarry P e 2 (u_reached (uS2 P e U) (p_exitOf P (p_callee P e)))) ≠ u_reached (uS2 P e U) (p_to P e))
def uStep (P : Pg) (e : Int) (U : Sp) : Int × Sp := if p_callee P e = -1 then (uG1 P e U, uS1 P e U) else (bO (bO (uG1 P e U) (uG2 P e U)) (uG3 P e U), uS3 P e U)
def uSF (P : Pg) (e : Int) (s : Int × Sp) : Int × Sp := (bO s.1 (bI ((uStep P e s.2).1 ≠ 0)), (uStep P e s.2).2)
def uIter (P : Pg) : Nat → Int → Sp → Sp
  | 0, _, U => U
  | k + 1, gr, U => if gr = 0 then U else uIter P k (it (uSF P) (p_edges P).toNat 0 (0, U)).1 (it (uSF P) (p_edges P).toNat 0 (0, U)).2
def uClr (U : Sp) : Sp := it (fun i U => us_reached U (up (u_reached U) i 0)) 24 0 (us_ready U 1)
def uFill (P : Pg) (U : Sp) : Sp := if u_ready U ≠ 0 then U else uIter P 193 1 (us_reached (uClr U) (up (u_reached (uClr U)) (p_entryOf P 0) (p_start P)))
theorem pCarry_r (P : Pg) (e w x : Int) : 0 ≤ pCarry P e w x ∧ pCarry P e w x < 256 := by
  unfold pCarry
  refine it_inv (fun _ r => 0 ≤ r ∧ r < 256) (b := 8) 8 0 _ (by omega) (by omega) (fun j r h1 h2 hr => ?_)
  split
  · have := pReach_r P e w j; exact ⟨bO_0 _ _, bO_8 hr.2 this.2⟩
  · exact hr
theorem uAdd_ok {U : Sp} {n x : Int} (h : uOk U) (hn : 0 ≤ n ∧ n < 24) (hx : 0 ≤ x ∧ x < 256) : uOk (uAdd n x U) := by
  have := h.2 n (by omega) (by omega)
  exact ⟨h.1, up_rng h.2 _ ⟨bO_0 _ _, by have := bO_8 (a := u_reached U n) (b := x) (by omega) (by omega); omega⟩⟩
theorem uS_ok {P : Pg} {U : Sp} {e : Int} (hP : pOk P) (h : uOk U) (he : 0 ≤ e ∧ e < 32) (hq : 0 ≤ p_callee P e ∧ p_callee P e < 5) : uOk (uS1 P e U) ∧ uOk (uS2 P e U) ∧ uOk (uS3 P e U) := by
  obtain ⟨p1, p2, p3, p4, p5, p6, p7, p8, p9, p10, p11⟩ := hP
  have h10 := p10 e (by omega) (by omega)
  have h5 := p5 (p_callee P e) (by omega) (by omega)
  have o1 : uOk (uS1 P e U) := uAdd_ok h (by omega) (pCarry_r _ _ _ _)
  have o2 : uOk (uS2 P e U) := uAdd_ok o1 (by omega) (pCarry_r _ _ _ _)
  exact ⟨o1, o2, uAdd_ok o2 (by omega) (pCarry_r _ _ _ _)⟩
theorem uS1_ok {P : Pg} {U : Sp} {e : Int} (hP : pOk P) (h : uOk U) (he : 0 ≤ e ∧ e < 32) : uOk (uS1 P e U) := by
  obtain ⟨p1, p2, p3, p4, p5, p6, p7, p8, p9, p10, p11⟩ := hP
  have h10 := p10 e (by omega) (by omega)
  exact uAdd_ok h (by omega) (pCarry_r _ _ _ _)
theorem uStep_ok {P : Pg} {U : Sp} {e : Int} (hP : pOk P) (h : uOk U) (he : 0 ≤ e ∧ e < 32) : uOk (uStep P e U).2 := by
  have hc := hP.2.2.2.2.2.2.2.2.2.2 e (by omega) (by omega)
  unfold uStep
  split
  · exact uS1_ok hP h he
  · exact (uS_ok hP h he (by omega)).2.2
theorem uStep_01 (P : Pg) (e : Int) (U : Sp) : (uStep P e U).1 = 0 ∨ (uStep P e U).1 = 1 := by
  unfold uStep
  split
  · exact bI_r _
  · exact bO_01 (bO_01 (bI_r _) (bI_r _)) (bI_r _)
theorem uSF_ok {P : Pg} {s : Int × Sp} {e : Int} (hP : pOk P) (h : uOk s.2) (hs : s.1 = 0 ∨ s.1 = 1) (he : 0 ≤ e ∧ e < 32) : uOk (uSF P e s).2 ∧ ((uSF P e s).1 = 0 ∨ (uSF P e s).1 = 1) := ⟨uStep_ok hP h he, bO_01 hs (bI_r _)⟩
theorem uClr_ok {U : Sp} (h : uOk U) : uOk (uClr U) := by
  unfold uClr
  refine it_inv (fun _ X => uOk X) (b := 24) 24 0 _ (by omega) ⟨show (0 : Int) ≤ 1 ∧ (1 : Int) ≤ 1 by decide, h.2⟩ (fun j X h1 h2 hX => ⟨hX.1, up_rng hX.2 _ (by decide)⟩)
/-! THE TEXT -/
def skB (len : Int) (b : Int → Int) : Nat → Int → Int
  | 0, p => p
  | k + 1, p => if p < len ∧ b p = 32 then skB len b k (p + 1) else p
def skT (len : Int) (b : Int → Int) (p : Int) : Int := skB len b (len - p).toNat p
abbrev isFig (len : Int) (b : Int → Int) (p : Int) : Prop := p < len ∧ 48 ≤ b p ∧ b p ≤ 57
/-- up to k figures from p on: where it ends, the number, how many -/
def dgs (len : Int) (b : Int → Int) : Nat → Int → Int → Int → Int × Int × Int
  | 0, p, v, n => (p, v, n)
  | k + 1, p, v, n => if isFig len b p then dgs len b k (p + 1) (10 * v + b p - 48) (n + 1) else (p, v, n)
def xSkip (X : Tx) : Tx := xs_place X (skT (x_length X) (x_bytes X) (x_place X))
abbrev xDg (X : Tx) : Int × Int × Int := dgs (x_length X) (x_bytes X) 3 (x_place X) 0 0
def xNumber (slot : Int) (X : Tx) : Bool × Tx := (decide (0 < (xDg X).2.2 ∧ ¬ isFig (x_length X) (x_bytes X) (xDg X).1), xs_parts (xs_place X (xDg X).1) (up (x_parts X) slot (xDg X).2.1))
def xBehind (c : Int) : Int := if c = 112 then 0 else if c = 110 ∨ c = 115 ∨ c = 120 then 1 else if c = 101 then 2 else if c = 99 then 3 else if c = 102 then 4 else -1
def xNums (slot : Int) : Nat → Int → Tx → Bool × Tx
  | 0, _, X => (true, X)
  | k + 1, i, X => if (xNumber (slot + i) (xSkip X)).1 = true then xNums slot k (i + 1) (xNumber (slot + i) (xSkip X)).2 else (false, (xNumber (slot + i) (xSkip X)).2)
def xLetter (slot : Int) (X : Tx) : Tx := xs_place (xs_parts X (up (x_parts X) slot (x_bytes X (x_place X)))) (x_place X + 1)
abbrev xN (slot : Int) (X : Tx) : Bool × Tx := xNums slot (xBehind (x_bytes X (x_place X))).toNat 1 (xLetter slot X)
def xEnd (Y : Tx) : Bool × Tx := if x_place Y < x_length Y ∧ x_bytes Y (x_place Y) = 59 then (true, xs_place Y (x_place Y + 1)) else (false, Y)
def xOrder (slot : Int) (X : Tx) : Bool × Tx := if xBehind (x_bytes X (x_place X)) = -1 then (false, X) else if (xN slot X).1 = true then xEnd (xSkip (xN slot X).2) else (false, (xN slot X).2)
def xNext (X : Tx) : Tx := xs_orders (xSkip X) (x_orders (xSkip X) + 1)
def xLoop (em : Int) : Nat → Tx → Int × Tx
  | 0, X => (em, X)
  | k + 1, X => if x_place X < x_length X then (if (xOrder (x_orders X * 5) X).1 = true then xLoop em k (xNext (xOrder (x_orders X * 5) X).2) else (x_place (xOrder (x_orders X * 5) X).2, (xOrder (x_orders X * 5) X).2)) else (em, X)
def xStart (X : Tx) : Tx := xs_orders (xSkip (xs_place X 0)) 0
def xRead (X : Tx) : Int × Tx := xLoop (if x_length X ≤ x_place (xStart X) then x_length X else -1) 60 (xStart X)
theorem skB_r (len : Int) (b : Int → Int) (k : Nat) : ∀ p : Int, p ≤ skB len b k p ∧ (p ≤ len → skB len b k p ≤ len) := by
  induction k with
  | zero => intro p; exact ⟨Int.le_refl _, id⟩
  | succ k ih =>
    intro p
    unfold skB
    split
    · have := ih (p + 1); omega
    · exact ⟨Int.le_refl _, id⟩
theorem dgs_r (len : Int) (b : Int → Int) (k : Nat) : ∀ p v n : Int, p ≤ (dgs len b k p v n).1 ∧ (p ≤ len → (dgs len b k p v n).1 ≤ len) ∧ n ≤ (dgs len b k p v n).2.2 ∧ (dgs len b k p v n).2.2 ≤ n + k := by
  induction k with
  | zero => intro p v n; exact ⟨Int.le_refl _, id, Int.le_refl _, by show n ≤ n + 0; omega⟩
  | succ k ih =>
    intro p v n
    unfold dgs
    split
    · have := ih (p + 1) (10 * v + b p - 48) (n + 1); omega
    · exact ⟨Int.le_refl _, id, Int.le_refl _, by show n ≤ n + ((k + 1 : Nat) : Int); omega⟩
theorem dgs_v (len : Int) (b : Int → Int) (k : Nat) : ∀ (p v n : Int) (M : Int), 0 ≤ v → v ≤ M → 0 ≤ (dgs len b k p v n).2.1 ∧ (dgs len b k p v n).2.1 + 1 ≤ (M + 1) * 10 ^ k := by
  induction k with
  | zero => intro p v n M h0 h1; exact ⟨h0, by show v + 1 ≤ (M + 1) * 10 ^ 0; omega⟩
  | succ k ih =>
    intro p v n M h0 h1
    have e : (M + 1) * 10 ^ (k + 1) = (10 * M + 9 + 1) * 10 ^ k := by rw [Int.pow_succ, Int.mul_comm (10 ^ k) 10, ← Int.mul_assoc]; congr 1; omega
    rw [e]
    unfold dgs
    split
    · rename_i hf; exact ih (p + 1) (10 * v + b p - 48) (n + 1) (10 * M + 9) (by omega) (by omega)
    · refine ⟨h0, ?_⟩
      have hp : (1 : Int) ≤ 10 ^ k := Int.pow_pos (by decide)
      show v + 1 ≤ (10 * M + 9 + 1) * 10 ^ k
      have : (10 * M + 9 + 1) * 1 ≤ (10 * M + 9 + 1) * 10 ^ k := Int.mul_le_mul_of_nonneg_left hp (by omega)
      omega
theorem xSkip_ok {X : Tx} (h : xOk X) (hp : x_place X ≤ x_length X) : xOk (xSkip X) ∧ x_place (xSkip X) ≤ x_length X ∧ x_place X ≤ x_place (xSkip X) := by
  obtain ⟨h1, h2, h3, h4, h5⟩ := h
  have := skB_r (x_length X) (x_bytes X) (x_length X - x_place X).toNat (x_place X)
  exact ⟨⟨h1, h2, h3, h4, ⟨by show 0 ≤ skT _ _ _; unfold skT; omega, by show skT _ _ _ ≤ 120; unfold skT; omega⟩⟩, this.2 hp, this.1⟩
theorem xNumber_ok {X : Tx} {slot : Int} (h : xOk X) (hp : x_place X ≤ x_length X) : xOk (xNumber slot X).2 ∧ x_place (xNumber slot X).2 ≤ x_length X ∧ x_place X ≤ x_place (xNumber slot X).2 := by
  obtain ⟨h1, h2, h3, h4, h5⟩ := h
  have r := dgs_r (x_length X) (x_bytes X) 3 (x_place X) 0 0
  have v := dgs_v (x_length X) (x_bytes X) 3 (x_place X) 0 0 0 (by decide) (by decide)
  refine ⟨⟨h1, h2, h3, up_rng h4 _ ⟨v.1, by show (dgs (x_length X) (x_bytes X) 3 (x_place X) 0 0).2.1 ≤ 999; have := v.2; omega⟩, ⟨by show 0 ≤ (dgs (x_length X) (x_bytes X) 3 (x_place X) 0 0).1; omega, by show (dgs (x_length X) (x_bytes X) 3 (x_place X) 0 0).1 ≤ 120; omega⟩⟩, r.2.1 hp, r.1⟩
theorem xNums_ok (slot : Int) (k : Nat) : ∀ (i : Int) (X : Tx), xOk X → x_place X ≤ x_length X → xOk (xNums slot k i X).2 ∧ x_length (xNums slot k i X).2 = x_length X ∧ x_bytes (xNums slot k i X).2 = x_bytes X ∧ x_orders (xNums slot k i X).2 = x_orders X ∧ x_place (xNums slot k i X).2 ≤ x_length X ∧ x_place X ≤ x_place (xNums slot k i X).2 := by
  induction k with
  | zero => intro i X h hp; exact ⟨h, rfl, rfl, rfl, hp, Int.le_refl _⟩
  | succ k ih =>
    intro i X h hp
    have h1 := xSkip_ok h hp
    have h2 := xNumber_ok (slot := slot + i) h1.1 h1.2.1
    have h3 : x_place (xSkip X) ≤ x_place (xNumber (slot + i) (xSkip X)).2 := h2.2.2
    unfold xNums
    split
    · have h4 := ih (i + 1) _ h2.1 h2.2.1
      exact ⟨h4.1, h4.2.1, h4.2.2.1, h4.2.2.2.1, h4.2.2.2.2.1, by omega⟩
    · exact ⟨h2.1, rfl, rfl, rfl, h2.2.1, by show x_place X ≤ x_place (xNumber (slot + i) (xSkip X)).2; omega⟩
theorem xBehind_r (c : Int) : -1 ≤ xBehind c ∧ xBehind c ≤ 4 := by unfold xBehind; (repeat' split) <;> omega
theorem xLetter_ok {X : Tx} {slot : Int} (h : xOk X) (hp : 0 ≤ x_place X ∧ x_place X < x_length X) : xOk (xLetter slot X) := by
  obtain ⟨h1, h2, h3, h4, h5⟩ := h
  have := h3 (x_place X) (by omega) (by omega)
  exact ⟨h1, h2, h3, up_rng h4 _ (by omega), ⟨by show 0 ≤ x_place X + 1; omega, by show x_place X + 1 ≤ 120; omega⟩⟩
theorem xOrder_ok {X : Tx} {slot : Int} (h : xOk X) (hp : x_place X < x_length X) : xOk (xOrder slot X).2 ∧ x_length (xOrder slot X).2 = x_length X ∧ x_bytes (xOrder slot X).2 = x_bytes X ∧ x_orders (xOrder slot X).2 = x_orders X ∧ x_place (xOrder slot X).2 ≤ x_length X ∧ ((xOrder slot X).1 = true → x_place X + 2 ≤ x_place (xOrder slot X).2) := by
  have h5 := h.2.2.2.2
  have hl1 := h.1
  unfold xOrder
  split
  · exact ⟨h, rfl, rfl, rfl, Int.le_of_lt hp, fun q => absurd (show false = true from q) (by decide)⟩
  · have hL := xLetter_ok (slot := slot) h (by omega)
    have hN := xNums_ok slot (xBehind (x_bytes X (x_place X))).toNat 1 (xLetter slot X) hL (by show x_place X + 1 ≤ x_length X; omega)
    have hN1 : x_length (xN slot X).2 = x_length X := hN.2.1
    have hN2 : x_place X + 1 ≤ x_place (xN slot X).2 := hN.2.2.2.2.2
    have hN3 : x_place (xN slot X).2 ≤ x_length X := hN.2.2.2.2.1
    split
    · have hS := xSkip_ok hN.1 (by rw [hN.2.1]; exact hN.2.2.2.2.1)
      have hS1 : x_place (xSkip (xN slot X).2) ≤ x_length (xN slot X).2 := hS.2.1
      have hS2 : x_place (xN slot X).2 ≤ x_place (xSkip (xN slot X).2) := hS.2.2
      have hSl : x_length (xSkip (xN slot X).2) = x_length (xN slot X).2 := rfl
      unfold xEnd
      split
      · rename_i hq
        obtain ⟨g1, g2, g3, g4, g5⟩ := hS.1
        exact ⟨⟨g1, g2, g3, g4, ⟨by show 0 ≤ x_place (xSkip (xN slot X).2) + 1; omega, by show x_place (xSkip (xN slot X).2) + 1 ≤ 120; omega⟩⟩, hN.2.1, hN.2.2.1, hN.2.2.2.1, by show x_place (xSkip (xN slot X).2) + 1 ≤ x_length X; omega, fun _ => by show x_place X + 2 ≤ x_place (xSkip (xN slot X).2) + 1; omega⟩
      · exact ⟨hS.1, hN.2.1, hN.2.2.1, hN.2.2.2.1, by show x_place (xSkip (xN slot X).2) ≤ x_length X; omega, fun q => absurd (show false = true from q) (by decide)⟩
    · exact ⟨hN.1, hN.2.1, hN.2.2.1, hN.2.2.2.1, hN3, fun q => absurd (show false = true from q) (by decide)⟩
def xApp (c : Int) (X : Tx) : Tx := if 120 ≤ x_length X then X else xs_length (xs_bytes X (up (x_bytes X) (x_length X) c)) (x_length X + 1)
theorem xPart_q (X : Tx) (j : Int) (h : xOk X) (hj : 0 ≤ j ∧ j < 300) : 0 ≤ x_parts X j ∧ x_parts X j ≤ 999 := h.2.2.2.1 j (by omega) (by omega)
theorem xApp_ok {X : Tx} {c : Int} (h : xOk X) (hc : 0 ≤ c ∧ c < 128) : xOk (xApp c X) := by
  unfold xApp
  obtain ⟨h1, h2, h3, h4, h5⟩ := id h
  split
  · exact h
  · exact ⟨⟨by show 0 ≤ x_length X + 1; omega, by show x_length X + 1 ≤ 120; omega⟩, h2, up_rng h3 _ (by omega), h4, h5⟩
theorem xLoop_ok (em : Int) (k : Nat) : ∀ X : Tx, xOk X → x_place X ≤ x_length X → x_orders X + k = 60 → 0 ≤ x_orders X → xOk (xLoop em k X).2 ∧ x_length (xLoop em k X).2 = x_length X ∧ x_bytes (xLoop em k X).2 = x_bytes X := by
  induction k with
  | zero => intro X h _ _ _; exact ⟨h, rfl, rfl⟩
  | succ k ih =>
    intro X h hp hk h0
    unfold xLoop
    split
    · rename_i hlt
      have hO := xOrder_ok (slot := x_orders X * 5) h hlt
      split
      · rename_i hq
        have hS := xSkip_ok hO.1 (by rw [hO.2.1]; exact hO.2.2.2.2.1)
        have e1 : x_orders (xOrder (x_orders X * 5) X).2 = x_orders X := hO.2.2.2.1
        have e2 : x_length (xOrder (x_orders X * 5) X).2 = x_length X := hO.2.1
        have hN : xOk (xNext (xOrder (x_orders X * 5) X).2) := by
          obtain ⟨g1, g2, g3, g4, g5⟩ := hS.1
          exact ⟨g1, ⟨by show 0 ≤ x_orders (xOrder (x_orders X * 5) X).2 + 1; omega, by show x_orders (xOrder (x_orders X * 5) X).2 + 1 ≤ 60; omega⟩, g3, g4, g5⟩
        have hr := ih (xNext (xOrder (x_orders X * 5) X).2) hN hS.2.1 (by show x_orders (xOrder (x_orders X * 5) X).2 + 1 + (k : Int) = 60; omega) (by show 0 ≤ x_orders (xOrder (x_orders X * 5) X).2 + 1; omega)
        exact ⟨hr.1, hr.2.1.trans hO.2.1, hr.2.2.trans hO.2.2.1⟩
      · exact ⟨hO.1, hO.2.1, hO.2.2.1⟩
    · exact ⟨h, rfl, rfl⟩
theorem xStart_ok {X : Tx} (h : xOk X) : xOk (xStart X) ∧ x_place (xStart X) ≤ x_length X ∧ x_length (xStart X) = x_length X ∧ x_bytes (xStart X) = x_bytes X := by
  have h0 : xOk (xs_place X 0) := ⟨h.1, h.2.1, h.2.2.1, h.2.2.2.1, show (0 : Int) ≤ 0 ∧ (0 : Int) ≤ 120 by decide⟩
  have hS := xSkip_ok h0 h.1.1
  exact ⟨⟨hS.1.1, show (0 : Int) ≤ 0 ∧ (0 : Int) ≤ 60 by decide, hS.1.2.2.1, hS.1.2.2.2.1, hS.1.2.2.2.2⟩, hS.2.1, rfl, rfl⟩
theorem xRead_ok {X : Tx} (h : xOk X) : xOk (xRead X).2 ∧ x_length (xRead X).2 = x_length X ∧ x_bytes (xRead X).2 = x_bytes X := by
  have hS := xStart_ok h
  have hr := xLoop_ok (if x_length X ≤ x_place (xStart X) then x_length X else -1) 60 (xStart X) hS.1 (by rw [hS.2.2.1]; exact hS.2.1) (by show (0 : Int) + 60 = 60; decide) (by show (0 : Int) ≤ 0; decide)
  exact ⟨hr.1, hr.2.1.trans hS.2.2.1, hr.2.2.trans hS.2.2.2⟩
theorem xnum_ok {X : Tx} {q v n sl : Int} (h : xOk X) (hD : dgs (x_length X) (x_bytes X) 3 (x_place X) 0 0 = (q, v, n)) (hq : 0 ≤ q ∧ q ≤ x_length X) : xOk (xs_parts (xs_place X q) (up (x_parts X) sl v)) := by
  obtain ⟨h1, h2, h3, h4, h5⟩ := h
  have hv := dgs_v (x_length X) (x_bytes X) 3 (x_place X) 0 0 0 (by decide) (by decide)
  rw [hD] at hv
  exact ⟨h1, h2, h3, up_rng h4 _ ⟨hv.1, by have : v + 1 ≤ (0 + 1) * 10 ^ 3 := hv.2; omega⟩, ⟨hq.1, by show q ≤ 120; omega⟩⟩
theorem xStep_ok {Y : Tx} (h : xOk Y) (hp : x_place Y < x_length Y) (ho : x_orders Y < 60) : (xOk (xOrder (x_orders Y * 5) Y).2 ∧ x_place (xOrder (x_orders Y * 5) Y).2 ≤ x_length (xOrder (x_orders Y * 5) Y).2 ∧ x_length (xOrder (x_orders Y * 5) Y).2 = x_length Y) ∧ xOk (xNext (xOrder (x_orders Y * 5) Y).2) ∧ x_place (xNext (xOrder (x_orders Y * 5) Y).2) ≤ x_length (xNext (xOrder (x_orders Y * 5) Y).2) ∧ x_length (xNext (xOrder (x_orders Y * 5) Y).2) = x_length Y ∧ x_orders (xNext (xOrder (x_orders Y * 5) Y).2) = x_orders Y + 1 := by
  have hO := xOrder_ok (slot := x_orders Y * 5) h hp
  have h2 := h.2.1
  have hS := xSkip_ok hO.1 (by rw [hO.2.1]; exact hO.2.2.2.2.1)
  have e1 : x_orders (xOrder (x_orders Y * 5) Y).2 = x_orders Y := hO.2.2.2.1
  refine ⟨⟨hO.1, by rw [hO.2.1]; exact hO.2.2.2.2.1, hO.2.1⟩, ?_, hS.2.1, hO.2.1, by show x_orders (xOrder (x_orders Y * 5) Y).2 + 1 = _; rw [e1]⟩
  obtain ⟨g1, g2, g3, g4, g5⟩ := hS.1
  exact ⟨g1, ⟨by show 0 ≤ x_orders (xOrder (x_orders Y * 5) Y).2 + 1; omega, by show x_orders (xOrder (x_orders Y * 5) Y).2 + 1 ≤ 60; omega⟩, g3, g4, g5⟩

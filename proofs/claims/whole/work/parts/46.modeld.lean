theorem rNum_q (len : Int) (b : Int → Int) (p : Int) (h : p ≤ len) : p ≤ (rNum len b p).2 ∧ (rNum len b p).2 ≤ len ∧ -1 ≤ (rNum len b p).1 ∧ (rNum len b p).1 ≤ 999 := by
  have hd := dgs_r len b 3 p 0 0
  have hv := dgs_v len b 3 p 0 0 0 (by decide) (by decide)
  have hs := skT_q len b (dgs len b 3 p 0 0).1 (hd.2.1 h)
  have hd1 := hd.2.1 h
  unfold rNum
  split
  · split
    · exact ⟨hd.1, hd1, by show (-1 : Int) ≤ -1; omega, by show (-1 : Int) ≤ 999; omega⟩
    · exact ⟨by show p ≤ skT len b _; omega, hs.2, by show -1 ≤ (dgs len b 3 p 0 0).2.1; omega, by show (dgs len b 3 p 0 0).2.1 ≤ 999; omega⟩
  · exact ⟨Int.le_refl _, h, by show (-1 : Int) ≤ -1; omega, by show (-1 : Int) ≤ 999; omega⟩
def rNums (len : Int) (b : Int → Int) (wr : Int) : Nat → Int → Int → (Int → Int) → Bool × Int × (Int → Int)
  | 0, _, p, O => (true, p, O)
  | k + 1, i, p, O => if (rNum len b p).1 = -1 then (false, (rNum len b p).2, O) else rNums len b wr k (i + 1) (rNum len b p).2 (up O (5 * wr + 1 + i) (rNum len b p).1)
abbrev rN (len : Int) (b : Int → Int) (look : Int) (O : Int → Int) (wr : Int) : Bool × Int × (Int → Int) := rNums len b wr (xBehind (bAt len b look)).toNat 0 (skT len b (look + 1)) (up O (5 * wr) (bAt len b look))
def rReads (len : Int) (b : Int → Int) (look : Int) (O : Int → Int) (wr : Int) : Bool × Int × (Int → Int) × Int := if xBehind (bAt len b look) = -1 then (false, look, O, wr) else
  if (rN len b look O wr).1 = true then (if bAt len b (rN len b look O wr).2.1 = 59 then (true, skT len b ((rN len b look O wr).2.1 + 1), (rN len b look O wr).2.2, wr + 1) else (false, (rN len b look O wr).2.1, (rN len b look O wr).2.2, wr)) else (false, (rN len b look O wr).2.1, (rN len b look O wr).2.2, wr)
def oOk (O : Int → Int) : Prop := ∀ j : Int, 0 ≤ j → j < 300 → 0 ≤ O j ∧ O j ≤ 999
theorem mOk_lo {M : Md} {q : Int} {O : Int → Int} (h : mOk M) (hq : 0 ≤ q ∧ q ≤ 120) (hO : oOk O) : mOk (ms_look (ms_orders M O) q) := by
  obtain ⟨h1, h2, h3, h4, h5, h6, h7, h8, h9, h10, h11, h12, h13, h14, h15, h16, h17, h18, h19, h20, h21, h22, h23, h24, h25⟩ := h
  exact ⟨h1, h2, h3, h4, h5, h6, h7, h8, h9, h10, h11, h12, h13, h14, h15, h16, h17, h18, h19, h20, h21, h22, hO, h24, hq⟩
theorem xBehind_lt {len : Int} {b : Int → Int} {p : Int} (h : ¬ xBehind (bAt len b p) = -1) : p < len := by
  by_cases hp : p < len
  · exact hp
  · exfalso; apply h
    have : bAt len b p = -1 := if_neg hp
    rw [this]; rfl
def nActed (f O : Int → Int) (k : Int) : Int × (Int → Int) := if O (5 * k) = 112 then nAddProc f else if O (5 * k) = 110 then nAddAny f (O (5 * k + 1)) else if O (5 * k) = 101 then nAddEdge f (O (5 * k + 1)) (O (5 * k + 2)) (-1) else if O (5 * k) = 99 then nAddCall f (O (5 * k + 1)) (O (5 * k + 2)) (O (5 * k + 3)) else if O (5 * k) = 102 then nSetFlow f (O (5 * k + 1)) (O (5 * k + 2)) (O (5 * k + 3)) (O (5 * k + 4)) else if O (5 * k) = 115 then nSetStart f (O (5 * k + 1)) else nCut f (O (5 * k + 1))

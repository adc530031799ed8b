/-! the reference: reading THE TEXT, and small reads, as functions -/
abbrev bAt (len : Int) (b : Int → Int) (p : Int) : Int := if p < len then b p else -1
def hHeld (pl : Int → Int) (n : Int) : Int := it (fun a r => it (fun b r => bO r (if 0 < pl ((8 * n + a) * 8 + b) then p2 b else 0)) 8 0 r) 8 0 0
def nCarry (f : Int → Int) (e w x : Int) : Int := it (fun a r => bO r (if bA (x / p2 a) 1 = 1 then f (62 + 27 * e + 3 + 8 * w + a) else 0)) 8 0 0
def mTold (M : Md) (w : Int) : Int := if w < 3 then m_refused M w else if w = 3 then m_typed M else m_states M
def mToldA (w : Int) (M : Md) : Int × Md := if 0 ≤ w ∧ w ≤ 4 then (mTold M w, M) else (-2, mBump 0 M)
def mType (c : Int) (M : Md) : Int × Md := if 0 ≤ c ∧ c ≤ 127 then (if m_typed M = 120 then (-4, mBump 2 M) else (m_typed M + 1, ms_typed (ms_text M (up (m_text M) (m_typed M) c)) (m_typed M + 1))) else (-2, mBump 0 M)
/-- a number from p on: the number (none: -1), and where it ends -/
def rNum (len : Int) (b : Int → Int) (p : Int) : Int × Int := if isFig len b p then (if isFig len b (dgs len b 3 p 0 0).1 then (-1, (dgs len b 3 p 0 0).1) else ((dgs len b 3 p 0 0).2.1, skT len b (dgs len b 3 p 0 0).1)) else (-1, p)
theorem bAt_fig (len : Int) (b : Int → Int) (p : Int) : (48 ≤ bAt len b p ∧ bAt len b p ≤ 57) ↔ isFig len b p := by
  show (48 ≤ (if p < len then b p else -1) ∧ (if p < len then b p else -1) ≤ 57) ↔ (p < len ∧ 48 ≤ b p ∧ b p ≤ 57)
  split <;> omega
theorem skT_q (len : Int) (b : Int → Int) (p : Int) (h : p ≤ len) : p ≤ skT len b p ∧ skT len b p ≤ len := by
  have := skB_r len b (len - p).toNat p
  exact ⟨this.1, this.2 h⟩
theorem bAt_q (len : Int) (b : Int → Int) (p : Int) (hb : ∀ j : Int, 0 ≤ j → j < 120 → 0 ≤ b j ∧ b j ≤ 127) (hl : len ≤ 120) (hp : 0 ≤ p) : -1 ≤ (if p < len then b p else -1) ∧ (if p < len then b p else -1) ≤ 127 := by
  split
  · have := hb p (by omega) (by omega); omega
  · omega
theorem bAt_s (len : Int) (b : Int → Int) (q : Int) : (if q < len then b q else -1) = 32 ↔ (q < len ∧ b q = 32) := by split <;> omega
theorem bI_iff {c d : Prop} [Decidable c] [Decidable d] (h : c ↔ d) : bI c = bI d := by
  unfold bI
  by_cases hc : c
  · rw [if_pos hc, if_pos (h.mp hc)]
  · rw [if_neg hc, if_neg (fun q => hc (h.mpr q))]
theorem mTold_q (M : Md) (w : Int) (h : mOk M) (hw : 0 ≤ w ∧ w ≤ 4) : 0 ≤ mTold M w ∧ mTold M w ≤ 1000000 := by
  have ht := h.2.2.2.2.2.2.2.2.2.2.2.2.2.2.2.2.2.2.2.2.2.1
  have hs := h.2.1
  unfold mTold
  split
  · have := h.1 w (by omega) (by omega); omega
  · split <;> omega
theorem mOk_look {M : Md} {q : Int} (h : mOk M) (hq : 0 ≤ q ∧ q ≤ 120) : mOk (ms_look M q) := by
  obtain ⟨h1, h2, h3, h4, h5, h6, h7, h8, h9, h10, h11, h12, h13, h14, h15, h16, h17, h18, h19, h20, h21, h22, h23, h24, h25⟩ := h
  exact ⟨h1, h2, h3, h4, h5, h6, h7, h8, h9, h10, h11, h12, h13, h14, h15, h16, h17, h18, h19, h20, h21, h22, h23, h24, hq⟩

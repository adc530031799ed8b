/-! numbers: every int of the walk is iI of an Int, every long lI of an Int, every int row iA of a function on Int -/
def iI (z : Int) : Int32 := Int32.ofInt z
def lI (z : Int) : Int64 := Int64.ofInt z
abbrev rg (z : Int) : Prop := -2147483648 ≤ z ∧ z < 2147483648
def iA (f : Int → Int) : Nat → Int32 := fun j => iI (f (j : Int))
def lA (f : Int → Int64) : Nat → Int64 := fun j => f (j : Int)
def up {α : Type} (f : Int → α) (i : Int) (v : α) : Int → α := fun j => if j = i then v else f j
theorem up_s {α : Type} (f : Int → α) (i : Int) (v : α) : up f i v i = v := by simp [up]
theorem up_n {α : Type} (f : Int → α) {i j : Int} (v : α) (h : j ≠ i) : up f i v j = f j := by simp [up, h]
theorem up_a {α : Type} (f : Int → α) (i j : Int) (v : α) : up f i v j = if j = i then v else f j := rfl
theorem iI_toInt {z : Int} (h : rg z) : (iI z).toInt = z := Int32.toInt_ofInt_of_le h.1 h.2
theorem iI_of (x : Int32) : ∃ z : Int, rg z ∧ x = iI z := ⟨x.toInt, ⟨x.le_toInt, x.toInt_lt⟩, by simp [iI]⟩
theorem iI_add (a b : Int) : iI a + iI b = iI (a + b) := (Int32.ofInt_add a b).symm
theorem iI_sub (a b : Int) : iI a - iI b = iI (a - b) := (Int32.ofInt_sub a b).symm
theorem iI_mul (a b : Int) : iI a * iI b = iI (a * b) := (Int32.ofInt_mul a b).symm
theorem iI_lt {a b : Int} (ha : rg a) (hb : rg b) : iI a < iI b ↔ a < b := by rw [Int32.lt_iff_toInt_lt, iI_toInt ha, iI_toInt hb]
theorem iI_le {a b : Int} (ha : rg a) (hb : rg b) : iI a ≤ iI b ↔ a ≤ b := by rw [Int32.le_iff_toInt_le, iI_toInt ha, iI_toInt hb]
theorem iI_eq {a b : Int} (ha : rg a) (hb : rg b) : iI a = iI b ↔ a = b := by rw [← Int32.toInt_inj, iI_toInt ha, iI_toInt hb]
theorem iI_nat (n : Nat) : iI (n : Int) = nI n := Int32.ofInt_eq_ofNat
theorem iI_nn {z : Int} (h : 0 ≤ z) : iI z = nI z.toNat := by rw [← iI_nat, Int.toNat_of_nonneg h]
theorem iI_0 : iI 0 = 0 := rfl
theorem iI_clamp {z : Int} (h0 : 0 ≤ z) (h : z < 2147483648) : (iI z).toNatClampNeg = z.toNat := by
  rw [iI_nn h0]; exact nI_clamp (by omega)
theorem iI_in {z : Int} {n : Nat} (h0 : 0 ≤ z) (h : z < n) (hn : n < 2147483648) : vp_in (iI z) n := by
  rw [iI_nn h0]; exact vp_in_nI (by omega) hn
theorem iA_at (f : Int → Int) {z : Int} (h0 : 0 ≤ z) (h : z < 2147483648) : iA f (iI z).toNatClampNeg = iI (f z) := by
  rw [iI_clamp h0 h]; unfold iA; rw [Int.toNat_of_nonneg h0]
theorem lA_at (f : Int → Int64) {z : Int} (h0 : 0 ≤ z) (h : z < 2147483648) : lA f (iI z).toNatClampNeg = f z := by
  rw [iI_clamp h0 h]; unfold lA; rw [Int.toNat_of_nonneg h0]
theorem iA_up (f : Int → Int) {z : Int} (v : Int) (h0 : 0 ≤ z) (h : z < 2147483648) : upd (iA f) (iI z).toNatClampNeg (iI v) = iA (up f z v) := by
  funext j
  rw [iI_clamp h0 h]
  unfold upd iA up
  by_cases hj : j = z.toNat
  · have : (j : Int) = z := by omega
    simp [hj, this, Int.toNat_of_nonneg h0]
  · have : (j : Int) ≠ z := by omega
    simp [hj, this]
theorem lA_up (f : Int → Int64) {z : Int} (v : Int64) (h0 : 0 ≤ z) (h : z < 2147483648) : vp_updL (lA f) (iI z).toNatClampNeg v = lA (up f z v) := by
  funext j
  rw [iI_clamp h0 h]
  unfold vp_updL lA up
  by_cases hj : j = z.toNat
  · have : (j : Int) = z := by omega
    simp [hj, this, Int.toNat_of_nonneg h0]
  · have : (j : Int) ≠ z := by omega
    simp [hj, this]
theorem iI_div {a b : Int} (ha : 0 ≤ a) (ha2 : a < 2147483648) (hb : 0 < b) (hb2 : b < 2147483648) : iI a / iI b = iI (a / b) := by
  rw [iI_nn ha, iI_nn (by omega : 0 ≤ b), pk_div (by omega) (by omega) (by omega), iI_nn (Int.ediv_nonneg ha (by omega))]
  congr 1
  rw [← Int.ofNat_inj]
  rw [Int.toNat_of_nonneg (Int.ediv_nonneg ha (by omega))]
  simp [Int.toNat_of_nonneg ha, Int.toNat_of_nonneg (show 0 ≤ b by omega)]
theorem iI_rem {a b : Int} (ha : 0 ≤ a) (ha2 : a < 2147483648) (hb : 0 < b) (hb2 : b < 2147483648) : iI a - iI a / iI b * iI b = iI (a % b) := by
  rw [iI_div ha ha2 hb hb2, iI_mul, iI_sub]
  congr 1
  rw [Int.emod_def, Int.mul_comm]
/-! sets of FACTS as bits -/
def bO (a b : Int) : Int := ((a.toNat ||| b.toNat : Nat) : Int)
def bA (a b : Int) : Int := ((a.toNat &&& b.toNat : Nat) : Int)
def bD (a b : Int) : Int := ((a.toNat ^^^ (a.toNat &&& b.toNat) : Nat) : Int)
def p2 (k : Int) : Int := ((2 ^ k.toNat : Nat) : Int)
def tb (a k : Int) : Bool := a.toNat.testBit k.toNat
theorem iI_or {a b : Int} (ha : 0 ≤ a) (hb : 0 ≤ b) : iI a ||| iI b = iI (bO a b) := by
  rw [iI_nn ha, iI_nn hb]; unfold bO; rw [iI_nat]
  apply Int32.toBitVec.inj
  simp [nI]
theorem iI_and {a b : Int} (ha : 0 ≤ a) (hb : 0 ≤ b) : iI a &&& iI b = iI (bA a b) := by
  rw [iI_nn ha, iI_nn hb]; unfold bA; rw [iI_nat]
  apply Int32.toBitVec.inj
  simp [nI]
theorem iI_not (a : Int) : iI a ^^^ iI (-1) = iI (-1 - a) := by
  have h : iI a ^^^ iI (-1) = ~~~ (iI a) := by
    apply Int32.toBitVec.inj
    have : (iI (-1)).toBitVec = BitVec.allOnes 32 := by decide
    rw [Int32.toBitVec_xor, this, BitVec.xor_allOnes, Int32.toBitVec_not]
  rw [h]
  have h2 : ~~~ (iI a) = -(iI a) - 1 := by
    apply Int32.toBitVec.inj
    have := BitVec.neg_eq_not_add (iI a).toBitVec
    simp only [Int32.toBitVec_not, Int32.toBitVec_sub, Int32.toBitVec_neg]
    rw [this]; exact (BitVec.add_sub_cancel _ _).symm
  rw [h2, show (1 : Int32) = iI 1 from rfl, show -(iI a) = iI (-a) from (Int32.ofInt_neg a).symm, iI_sub]
  congr 1; omega
theorem iI_andnot {a b : Int} (ha : 0 ≤ a) (ha2 : a < 2147483648) (hb : 0 ≤ b) : iI a &&& iI (-1 - b) = iI (bD a b) := by
  rw [← iI_not, iI_nn ha, iI_nn hb]; unfold bD; rw [iI_nat]
  apply Int32.toBitVec.inj
  have h1 : (iI (-1)).toBitVec = BitVec.allOnes 32 := by decide
  simp only [nI, Int32.toBitVec_and, Int32.toBitVec_xor, h1, BitVec.xor_allOnes]
  apply BitVec.eq_of_getLsbD_eq
  intro i hi
  simp only [BitVec.getLsbD_and, BitVec.getLsbD_not, Int32.toBitVec_ofNat', BitVec.getLsbD_ofNat, hi, decide_true, Bool.true_and, Nat.testBit_xor, Nat.testBit_and]
  cases a.toNat.testBit i <;> cases b.toNat.testBit i <;> rfl
theorem iI_shr {a k : Int} (ha : 0 ≤ a) (ha2 : a < 2147483648) (hk : 0 ≤ k) (hk2 : k < 31) : iI a >>> (iI k &&& 31) = iI (a / p2 k) := by
  have hs : ∀ n, n < 31 → ((nI n &&& 31).toBitVec.smod 32).toNat = n := by decide
  rw [iI_nn ha, iI_nn hk, pk_shrN (by omega) _ k.toNat (hs _ (by omega)), ← iI_nat]
  congr 1
  unfold p2
  rw [Int.natCast_ediv, Int.toNat_of_nonneg ha]
theorem iI_shl1 {k : Int} (hk : 0 ≤ k) (hk2 : k < 31) : iI 1 <<< (iI k &&& 31) = iI (p2 k) := by
  have hs : ∀ n, n < 31 → (1 : Int32) <<< (nI n &&& 31) = nI (2 ^ n) := by decide
  rw [iI_nn hk]
  unfold p2
  rw [iI_nat]
  exact hs _ (by omega)
theorem bO_0 (a b : Int) : 0 ≤ bO a b := Int.natCast_nonneg _
theorem bA_0 (a b : Int) : 0 ≤ bA a b := Int.natCast_nonneg _
theorem bD_0 (a b : Int) : 0 ≤ bD a b := Int.natCast_nonneg _
theorem p2_0 (a : Int) : 0 < p2 a := by unfold p2; have := Nat.two_pow_pos a.toNat; omega
theorem bO_8 {a b : Int} (ha : a < 256) (hb : b < 256) : bO a b < 256 := by
  have := Nat.or_lt_two_pow (x := a.toNat) (y := b.toNat) (n := 8) (by omega) (by omega)
  unfold bO; omega
theorem bA_8 {a : Int} (b : Int) (ha : a < 256) : bA a b < 256 := by
  have := Nat.and_le_left (n := a.toNat) (m := b.toNat)
  unfold bA; omega
theorem bD_8 {a : Int} (b : Int) (ha : a < 256) : bD a b < 256 := by
  have h := Nat.and_le_left (n := a.toNat) (m := b.toNat)
  have := Nat.xor_lt_two_pow (x := a.toNat) (y := a.toNat &&& b.toNat) (n := 8) (by omega) (by omega)
  unfold bD; omega
theorem p2_8 {k : Int} (h : k < 8) : p2 k < 256 := by
  unfold p2
  have : 2 ^ k.toNat ≤ 2 ^ 7 := Nat.pow_le_pow_right (by decide) (by omega)
  omega
theorem tb_O (a b k : Int) : tb (bO a b) k = (tb a k || tb b k) := by unfold tb bO; simp [Nat.testBit_or]
theorem tb_A (a b k : Int) : tb (bA a b) k = (tb a k && tb b k) := by unfold tb bA; simp [Nat.testBit_and]
theorem tb_D (a b k : Int) : tb (bD a b) k = (tb a k && !tb b k) := by
  unfold tb bD; simp only [Int.toNat_natCast, Nat.testBit_xor, Nat.testBit_and]
  cases a.toNat.testBit k.toNat <;> cases b.toNat.testBit k.toNat <;> rfl
theorem tb_p2 (a k : Int) : tb (p2 a) k = decide (a.toNat = k.toNat) := by unfold tb p2; rw [Int.toNat_natCast, Nat.testBit_two_pow]
theorem tb_0 (k : Int) : tb 0 k = false := by simp [tb]
theorem tb_ext {a b : Int} (ha : 0 ≤ a) (ha2 : a < 256) (hb : 0 ≤ b) (hb2 : b < 256) (h : ∀ k : Int, 0 ≤ k → k < 8 → tb a k = tb b k) : a = b := by
  have : a.toNat = b.toNat := by
    apply Nat.eq_of_testBit_eq
    intro i
    by_cases hi : i < 8
    · have := h i (by omega) (by omega)
      simpa [tb] using this
    · rw [Nat.testBit_lt_two_pow (Nat.lt_of_lt_of_le (by omega : a.toNat < 2 ^ 8) (Nat.pow_le_pow_right (by decide) (by omega))), Nat.testBit_lt_two_pow (Nat.lt_of_lt_of_le (by omega : b.toNat < 2 ^ 8) (Nat.pow_le_pow_right (by decide) (by omega)))]
  omega
theorem tb_z {a : Int} (ha : 0 ≤ a) (ha2 : a < 256) : a = 0 ↔ ∀ k : Int, 0 ≤ k → k < 8 → tb a k = false := by
  constructor
  · intro h k _ _; rw [h]; exact tb_0 k
  · intro h; exact tb_ext ha ha2 (by decide) (by decide) (fun k h1 h2 => by rw [h k h1 h2, tb_0])
/-- facts >> f & 1 -/
theorem tb_bit {a k : Int} (ha : 0 ≤ a) (hk : 0 ≤ k) : bA (a / p2 k) 1 = if tb a k then 1 else 0 := by
  have h : (a / p2 k).toNat = a.toNat / 2 ^ k.toNat := by
    unfold p2
    rw [← Int.toNat_natCast (a.toNat / 2 ^ k.toNat), Int.natCast_ediv, Int.toNat_of_nonneg ha]
  unfold bA tb
  rw [h, Nat.testBit_eq_decide_div_mod_eq]
  simp only [show (1 : Int).toNat = 1 from rfl, Nat.and_one_is_mod]
  have := Nat.mod_two_eq_zero_or_one (a.toNat / 2 ^ k.toNat)
  rcases this with h0 | h0 <;> rw [h0] <;> rfl
theorem tb_odd {a : Int} (ha : 0 ≤ a) : bA a 1 = if tb a 0 then 1 else 0 := by
  have := tb_bit (a := a) (k := 0) ha (by decide)
  have h1 : p2 0 = 1 := rfl
  rw [h1, Int.ediv_one] at this
  exact this
/-- a truth as an int -/
def bI (c : Prop) [Decidable c] : Int := if c then 1 else 0
theorem bI_t {c : Prop} [Decidable c] (h : c) : bI c = 1 := if_pos h
theorem bI_f {c : Prop} [Decidable c] (h : ¬ c) : bI c = 0 := if_neg h
theorem bI_r (c : Prop) [Decidable c] : bI c = 0 ∨ bI c = 1 := by by_cases h : c <;> simp [bI, h]
/-- longs -/
theorem lI_add (a b : Int) : lI a + lI b = lI (a + b) := (Int64.ofInt_add a b).symm
theorem lI_mul (a b : Int) : lI a * lI b = lI (a * b) := (Int64.ofInt_mul a b).symm
theorem lI_i {a : Int} (h : rg a) : (iI a).toInt64 = lI a := by
  have : (iI a).toInt64 = Int64.ofInt (iI a).toInt := rfl
  rw [this, iI_toInt h]; rfl
/-- for i = i0 .. i0 + n - 1 -/
def it {σ : Type} (f : Int → σ → σ) : Nat → Int → σ → σ
  | 0, _, s => s
  | n + 1, i, s => it f n (i + 1) (f i s)
theorem it_0 {σ : Type} (f : Int → σ → σ) (i : Int) (s : σ) : it f 0 i s = s := rfl
theorem it_s {σ : Type} (f : Int → σ → σ) (n : Nat) (i : Int) (s : σ) : it f (n + 1) i s = it f n (i + 1) (f i s) := rfl
/-- what stays over a loop -/
theorem it_inv {σ : Type} {f : Int → σ → σ} (I : Int → σ → Prop) {b : Int} (n : Nat) : ∀ (i : Int) (s : σ), i + n = b → I i s → (∀ j t, i ≤ j → j < b → I j t → I (j + 1) (f j t)) → I b (it f n i s) := by
  induction n with
  | zero => intro i s h h0 _; have : i = b := by omega
            subst this; exact h0
  | succ n ih =>
    intro i s h h0 hs
    rw [it_s]
    exact ih (i + 1) (f i s) (by omega) (hs i s (by omega) (by omega) h0) (fun j t h1 h2 h3 => hs j t (by omega) h2 h3)
/-- one more at the end -/
theorem it_last {σ : Type} (f : Int → σ → σ) (n : Nat) : ∀ (i : Int) (s : σ), it f (n + 1) i s = f (i + n) (it f n i s) := by
  induction n with
  | zero => intro i s; simp [it]
  | succ n ih => intro i s; rw [it_s, ih, it_s]; congr 1; omega

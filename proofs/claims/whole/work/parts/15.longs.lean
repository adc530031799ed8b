theorem wb_tb (n : Nat) : (lN n).toBitVec = BitVec.ofNat 64 n := rfl
theorem wb_inj {a b : Int64} (h : a.toBitVec = b.toBitVec) : a = b := Int64.toBitVec_inj.mp h
theorem wb_tn {n : Nat} (h : n < 2 ^ 64) : (lN n).toBitVec.toNat = n := by rw [wb_tb, BitVec.toNat_ofNat, Nat.mod_eq_of_lt h]
theorem wb_of (x : Int64) : ∃ n, n < 2 ^ 64 ∧ x = lN n := ⟨x.toBitVec.toNat, x.toBitVec.isLt, wb_inj (by rw [wb_tb]; simp)⟩
theorem wb_c : ∀ k, k < 64 → ((nI k).toInt64 &&& 63) = lN k := by decide +kernel
theorem wb_cu : ∀ k, k < 64 → ((nI k).toInt64.toUInt64 &&& Int64.toUInt64 63) = UInt64.ofNat k := by decide +kernel
theorem wb_sm : ∀ k, k < 64 → (BitVec.ofNat 64 k).smod 64 = BitVec.ofNat 64 k := by decide +kernel
theorem wb_pw {a b : Nat} (h : a ≤ b) : 2 ^ b = 2 ^ a * 2 ^ (b - a) := by rw [← Nat.pow_add]; congr 1; omega
theorem wb_lt2 {a b : Nat} (h : a < b) : 2 ^ a < 2 ^ b := Nat.pow_lt_pow_right (by decide) h
theorem wb_mod (n : Nat) : lN n = lN (n % 2 ^ 64) := wb_inj (by rw [wb_tb, wb_tb]; apply BitVec.eq_of_toNat_eq; rw [BitVec.toNat_ofNat, BitVec.toNat_ofNat, Nat.mod_mod])
theorem wb_shr {n k : Nat} (hn : n < 2 ^ 64) (hk : k < 64) : ((lN n).toUInt64 >>> ((nI k).toInt64.toUInt64 &&& Int64.toUInt64 63)).toInt64 = lN (n / 2 ^ k) := by
  rw [wb_cu k hk]
  apply wb_inj
  apply BitVec.eq_of_toNat_eq
  show ((lN n).toUInt64 >>> UInt64.ofNat k).toNat = (BitVec.ofNat 64 _).toNat
  have h1 : (UInt64.ofNat k).toNat = k := by
    show (BitVec.ofNat 64 k).toNat = k
    rw [BitVec.toNat_ofNat, Nat.mod_eq_of_lt (by omega)]
  have h2 : (lN n).toUInt64.toNat = n := wb_tn hn
  rw [UInt64.toNat_shiftRight, h1, h2, Nat.mod_eq_of_lt hk, Nat.shiftRight_eq_div_pow, BitVec.toNat_ofNat, Nat.mod_eq_of_lt (Nat.lt_of_le_of_lt (Nat.div_le_self _ _) hn)]
theorem wb_shl (n : Nat) {k : Nat} (hk : k < 64) : lN n <<< ((nI k).toInt64 &&& 63) = lN (n * 2 ^ k) := by
  rw [wb_c k hk]
  apply wb_inj
  rw [Int64.toBitVec_shiftLeft, wb_tb, wb_tb, wb_tb, wb_sm k hk]
  apply BitVec.eq_of_toNat_eq
  rw [BitVec.shiftLeft_eq', BitVec.toNat_shiftLeft, BitVec.toNat_ofNat, BitVec.toNat_ofNat, BitVec.toNat_ofNat, Nat.mod_eq_of_lt (show k < 2 ^ 64 by omega), Nat.shiftLeft_eq, Nat.mul_mod, Nat.mod_mod, ← Nat.mul_mod]
/-! a FLOW in a long: byte a of it -/
def byL (x : Int64) (a : Int) : Int := ((x.toBitVec.toNat / 2 ^ (8 * a.toNat) % 256 : Nat) : Int)
def shL (x : Int64) (a : Int) : Int64 := (x.toUInt64 >>> ((iI (a * 8)).toInt64.toUInt64 &&& Int64.toUInt64 63)).toInt64
def sfL (v a : Int) : Int64 := lI v <<< ((iI (a * 8)).toInt64 &&& 63)
def setL (x : Int64) (a v : Int) : Int64 := (x &&& (sfL 255 a ^^^ lI (-1))) ||| sfL v a
def plL : Int64 := -9205322385119247871
theorem byL_0 (x : Int64) (a : Int) : 0 ≤ byL x a ∧ byL x a ≤ 255 := by unfold byL; omega
theorem iI_8a {a : Int} (h0 : 0 ≤ a) : iI (a * 8) = nI (8 * a.toNat) := by rw [← iI_nat]; congr 1; omega
theorem byL_eq {x : Int64} {a : Int} (h0 : 0 ≤ a) (h : a < 8) : (shL x a).toInt32 &&& iI 255 = iI (byL x a) := by
  obtain ⟨n, hn, rfl⟩ := wb_of x
  unfold shL byL
  rw [iI_8a h0, wb_shr hn (by omega), lN_i, ← iI_nat, iI_and (Int.natCast_nonneg _) (by decide), wb_tn hn]
  unfold bA
  congr 2
  exact Nat.and_two_pow_sub_one_eq_mod _ 8
theorem tb_byL (x : Int64) {a i : Int} (hi : i < 8) : tb (byL x a) i = x.toBitVec.getLsbD (8 * a.toNat + i.toNat) := by
  unfold tb byL
  rw [Int.toNat_natCast, show 256 = 2 ^ 8 from rfl, Nat.testBit_mod_two_pow, Nat.testBit_div_two_pow, BitVec.getLsbD]
  have : i.toNat < 8 := by omega
  simp only [this, decide_true, Bool.true_and]
  congr 1; omega
theorem sfL_bit {v a : Int} (hv : 0 ≤ v) (h0 : 0 ≤ a) (h : a < 8) (j : Nat) : (sfL v a).toBitVec.getLsbD j = (decide (j < 64) && (decide (8 * a.toNat ≤ j) && v.toNat.testBit (j - 8 * a.toNat))) := by
  unfold sfL
  have hl : lI v = lN v.toNat := by
    unfold lI lN; rw [← Int64.ofInt_eq_ofNat, Int.toNat_of_nonneg hv]
  rw [iI_8a h0, hl, wb_shl _ (by omega), wb_tb, BitVec.getLsbD_ofNat, Nat.testBit_mul_two_pow]
theorem tb_setL (x : Int64) {a v b i : Int} (hv : 0 ≤ v) (h0 : 0 ≤ a) (h : a < 8) (hb : 0 ≤ b) (hb2 : b < 8) (hi0 : 0 ≤ i) (hi : i < 8) : tb (byL (setL x a v) b) i = if b = a then v.toNat.testBit i.toNat else ((x.toBitVec.getLsbD (8 * b.toNat + i.toNat)) || (decide (a < b) && v.toNat.testBit (8 * b.toNat + i.toNat - 8 * a.toNat))) := by
  rw [tb_byL _ hi]
  have hm : (lI (-1)).toBitVec = BitVec.allOnes 64 := by decide
  unfold setL
  rw [Int64.toBitVec_or, Int64.toBitVec_and, Int64.toBitVec_xor, hm, BitVec.xor_allOnes, BitVec.getLsbD_or, BitVec.getLsbD_and, BitVec.getLsbD_not, sfL_bit (by decide) h0 h, sfL_bit hv h0 h]
  have hj : 8 * b.toNat + i.toNat < 64 := by omega
  have h255 : ∀ t, (255 : Int).toNat.testBit t = decide (t < 8) := fun t => Nat.testBit_two_pow_sub_one 8 t
  simp only [hj, decide_true, Bool.true_and, h255]
  by_cases hba : b = a
  · subst hba
    have e1 : 8 * b.toNat ≤ 8 * b.toNat + i.toNat := by omega
    have e2 : 8 * b.toNat + i.toNat - 8 * b.toNat = i.toNat := by omega
    have e3 : i.toNat < 8 := by omega
    simp [e1, e2, e3]
  · simp only [hba, if_false]
    by_cases hlt : a < b
    · have e1 : 8 * a.toNat ≤ 8 * b.toNat + i.toNat := by omega
      have e2 : ¬ (8 * b.toNat + i.toNat - 8 * a.toNat < 8) := by omega
      simp [e1, e2, hlt]
    · have e1 : ¬ (8 * a.toNat ≤ 8 * b.toNat + i.toNat) := by omega
      simp [e1, hlt]
theorem byL_set (x : Int64) {a v b : Int} (hv : 0 ≤ v) (hv2 : v < 256) (h0 : 0 ≤ a) (h : a < 8) (hb : 0 ≤ b) (hb2 : b < 8) : byL (setL x a v) b = if b = a then v else byL x b := by
  have r1 := byL_0 (setL x a v) b
  have r2 := byL_0 x b
  refine tb_ext (by omega) (by omega) (by split <;> omega) (by split <;> omega) (fun i hi0 hi => ?_)
  rw [tb_setL x hv h0 h hb hb2 hi0 hi]
  by_cases hba : b = a
  · simp only [hba, if_true]; rfl
  · simp only [hba, if_false]
    rw [tb_byL _ hi]
    by_cases hlt : a < b
    · have : v.toNat.testBit (8 * b.toNat + i.toNat - 8 * a.toNat) = false := Nat.testBit_lt_two_pow (Nat.lt_of_lt_of_le (by omega : v.toNat < 2 ^ 8) (Nat.pow_le_pow_right (by decide) (by omega)))
      rw [this]; simp
    · simp [hlt]
theorem byL_plain {a : Int} (h0 : 0 ≤ a) (h : a < 8) : byL plL a = p2 a := by
  have : a = 0 ∨ a = 1 ∨ a = 2 ∨ a = 3 ∨ a = 4 ∨ a = 5 ∨ a = 6 ∨ a = 7 := by omega
  rcases this with rfl | rfl | rfl | rfl | rfl | rfl | rfl | rfl <;> rfl

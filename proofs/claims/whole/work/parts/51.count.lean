/-! counting the places that are taken -/
def cntZ (f : Int → Int) : Nat → Int
  | 0 => 0
  | n + 1 => cntZ f n + (if f (n : Int) = 0 then 0 else 1)
theorem cntZ_r (f : Int → Int) (n : Nat) : 0 ≤ cntZ f n ∧ cntZ f n ≤ n := by
  induction n with
  | zero => exact ⟨Int.le_refl _, Int.le_refl _⟩
  | succ n ih => unfold cntZ; split <;> omega
theorem cntZ_lt {f : Int → Int} {k : Int} (n : Nat) (h0 : 0 ≤ k) (hk : k < n) (hf : f k = 0) : cntZ f n < n := by
  induction n with
  | zero => omega
  | succ n ih =>
    unfold cntZ
    by_cases h : k < n
    · have := ih h; split <;> omega
    · have : k = (n : Int) := by omega
      have hr := cntZ_r f n
      rw [this] at hf; rw [if_pos hf]; omega
theorem cntZ_out {f : Int → Int} {k v : Int} (n : Nat) (hk : (n : Int) ≤ k) : cntZ (up f k v) n = cntZ f n := by
  induction n with
  | zero => rfl
  | succ n ih =>
    unfold cntZ
    rw [ih (by omega), up_n _ _ (by omega)]
theorem cntZ_up {f : Int → Int} {k v : Int} (n : Nat) (h0 : 0 ≤ k) (hk : k < n) (hf : f k = 0) (hv : v ≠ 0) : cntZ (up f k v) n = cntZ f n + 1 := by
  induction n with
  | zero => omega
  | succ n ih =>
    unfold cntZ
    by_cases h : k < n
    · rw [ih h, up_n _ _ (by omega)]; omega
    · have e : k = (n : Int) := by omega
      subst e
      rw [cntZ_out n (Int.le_refl _), up_s, if_neg hv, if_pos hf]; omega
def mC (M : Md) : Prop := cntZ (m_place M) 1536 = m_entries M
theorem mC_lt {M : Md} {k : Int} (h : mC M) (h0 : 0 ≤ k) (hk : k < 1536) (hp : m_place M k = 0) : m_entries M < 1536 := by
  have := cntZ_lt 1536 h0 hk hp
  unfold mC at h; omega
theorem mComes_C {M : Md} {a n b y z : Int} (h : mC M) (ho : mOk M) (ha : 0 ≤ a ∧ a < 8) (hn : 0 ≤ n ∧ n < 24) (hb : 0 ≤ b ∧ b < 8) : mC (mComes a n b y z M) := by
  unfold mComes
  split
  · rename_i hp
    have he : 0 ≤ m_entries M := ho.2.2.2.2.2.2.2.2.1.1
    show cntZ (up (m_place M) ((8 * n + a) * 8 + b) (m_entries M + 1)) 1536 = m_entries M + 1
    rw [cntZ_up 1536 (by omega) (by omega) hp (by omega)]
    unfold mC at h; omega
  · exact h
theorem mComes_ok {M : Md} {a n b y z : Int} (h : mC M) (ho : mOk M) (ha : 0 ≤ a ∧ a < 8) (hn : 0 ≤ n ∧ n < 24) (hb : 0 ≤ b ∧ b < 8) (hy : -1 ≤ y ∧ y < 1536) (hz : -1 ≤ z ∧ z < 1536) : mOk (mComes a n b y z M) := by
  unfold mComes
  split
  · rename_i hp
    have hlt := mC_lt h (by omega) (by omega) hp
    obtain ⟨h1, h2, h3, h4, h5, h6, h7, h8, h9, h10, h11, h12, h13, h14, h15, h16, h17, h18, h19, h20, h21, h22, h23, h24, h25⟩ := ho
    exact ⟨h1, h2, up_rng h3 _ (by omega), up_rng h4 _ (by omega), up_rng h5 _ (by omega), up_rng h6 _ (by omega), up_rng h7 _ (by omega), up_rng h8 _ (by omega), ⟨by show 0 ≤ m_entries M + 1; omega, by show m_entries M + 1 ≤ 1536; omega⟩, h10, h11, h12, h13, h14, h15, h16, h17, h18, h19, h20, h21, h22, h23, h24, h25⟩
  · exact ho

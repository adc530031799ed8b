/-! the reference's table: what holds of it on the way (pure) -/
def nWf (N : Int → Int) : Prop := 1 ≤ N 0 ∧ (∀ q : Int, 0 ≤ q → q < N 0 → (N (4 + 2 * q) < N 1 ∧ N (4 + 2 * q + 1) < N 1 ∧ N (14 + 2 * N (4 + 2 * q) + 1) = 0 ∧ N (14 + 2 * N (4 + 2 * q + 1) + 1) = 1)) ∧ (∀ n : Int, 0 ≤ n → n < N 1 → N (14 + 2 * n) < N 0) ∧ (∀ e : Int, 0 ≤ e → e < N 2 → (N (62 + 27 * e + 0) < N 1 ∧ N (62 + 27 * e + 1) < N 1 ∧ N (14 + 2 * N (62 + 27 * e + 1) + 1) ≠ 0 ∧ N (62 + 27 * e + 2) < N 0))
/-- r is the first k from j on whose owner is key -/
def NX (own : Int → Int) (n key j r : Int) : Prop := (r = -1 ∧ ∀ k : Int, j ≤ k → k < n → own k ≠ key) ∨ ((j ≤ r ∧ r < n) ∧ own r = key ∧ ∀ k : Int, j ≤ k → k < r → own k ≠ key)
def LX (own : Int → Int) (n key r : Int) : Prop := (r = -1 ∧ ∀ k : Int, 0 ≤ k → k < n → own k ≠ key) ∨ ((0 ≤ r ∧ r < n) ∧ own r = key ∧ ∀ k : Int, r < k → k < n → own k ≠ key)
theorem NX_up_ne {own : Int → Int} {n key key' j r : Int} (h : NX own n key' j r) (hk : key' ≠ key) : NX (up own n key) (n + 1) key' j r := by
  rcases h with ⟨h1, h2⟩ | ⟨h1, h2, h3⟩
  · refine Or.inl ⟨h1, fun k k0 k1 => ?_⟩
    unfold up
    split
    · exact fun h => hk h.symm
    · exact h2 k k0 (by omega)
  · refine Or.inr ⟨by omega, ?_, fun k k0 k1 => ?_⟩
    · rw [up_n _ _ (by omega)]; exact h2
    · rw [up_n _ _ (by omega)]; exact h3 k k0 k1
theorem NX_up_some {own : Int → Int} {n key key' j r : Int} (h : NX own n key' j r) (hr : r ≠ -1) : NX (up own n key) (n + 1) key' j r := by
  rcases h with ⟨h1, h2⟩ | ⟨h1, h2, h3⟩
  · exact absurd h1 hr
  · refine Or.inr ⟨by omega, ?_, fun k k0 k1 => ?_⟩
    · rw [up_n _ _ (by omega)]; exact h2
    · rw [up_n _ _ (by omega)]; exact h3 k k0 k1
theorem NX_up_new {own : Int → Int} {n key j : Int} (h : ∀ k : Int, j ≤ k → k < n → own k ≠ key) (hj : j ≤ n) : NX (up own n key) (n + 1) key j n := by
  refine Or.inr ⟨by omega, up_s _ _ _, fun k k0 k1 => ?_⟩
  rw [up_n _ _ (by omega)]; exact h k k0 k1
theorem LX_up_ne {own : Int → Int} {n key key' r : Int} (h : LX own n key' r) (hk : key' ≠ key) : LX (up own n key) (n + 1) key' r := by
  have hu : ∀ k : Int, (k < n → own k ≠ key') → k < n + 1 → up own n key k ≠ key' := by
    intro k k0 k1
    unfold up
    split
    · exact fun h => hk h.symm
    · exact k0 (by omega)
  rcases h with ⟨h1, h2⟩ | ⟨h1, h2, h3⟩
  · exact Or.inl ⟨h1, fun k k0 k1 => hu k (h2 k k0) k1⟩
  · refine Or.inr ⟨by omega, ?_, fun k k0 k1 => hu k (h3 k k0) k1⟩
    rw [up_n _ _ (by omega)]; exact h2
theorem LX_up_new {own : Int → Int} {n key : Int} (h0 : 0 ≤ n) : LX (up own n key) (n + 1) key n :=
  Or.inr ⟨by omega, up_s _ _ _, fun k k0 k1 => absurd k0 (by omega)⟩
/-- callers by their owners -/
def vCr (E n2 n : Int) (own ca fo fi la : Int → Int) : Prop := (∀ k : Int, 0 ≤ k → k < n → (0 ≤ own k ∧ own k < 40) ∧ (0 ≤ ca k ∧ ca k / 32 < E ∧ ca k % 32 < n2) ∧ NX own n (own k) (k + 1) (fo k)) ∧ (∀ q : Int, 0 ≤ q → q < 40 → NX own n q 0 (fi q) ∧ LX own n q (la q))
theorem vCr_mono {E E' n2 n : Int} {own ca fo fi la : Int → Int} (h : vCr E n2 n own ca fo fi la) (hE : E ≤ E') : vCr E' n2 n own ca fo fi la :=
  ⟨fun k k0 k1 => by have := h.1 k k0 k1; exact ⟨this.1, ⟨this.2.1.1, by have := this.2.1.2.1; omega, this.2.1.2.2⟩, this.2.2⟩, h.2⟩
theorem vCr_noteA {E n2 n key v : Int} {own ca fo fi la : Int → Int} (h : vCr E n2 n own ca fo fi la) (hn : 0 ≤ n) (hk : 0 ≤ key ∧ key < 40) (hv : 0 ≤ v ∧ v / 32 < E ∧ v % 32 < n2) (hl : la key = -1) : vCr E n2 (n + 1) (up own n key) (up ca n v) (up fo n (-1)) (up fi key n) (up la key n) := by
  have hL := (h.2 key hk.1 hk.2).2
  have hno : ∀ k : Int, 0 ≤ k → k < n → own k ≠ key := by
    rcases hL with ⟨_, h2⟩ | ⟨h1, _, _⟩
    · exact h2
    · omega
  refine ⟨fun k k0 k1 => ?_, fun q q0 q1 => ?_⟩
  · by_cases e : k = n
    · subst e
      rw [up_s, up_s, up_s]
      exact ⟨hk, hv, Or.inl ⟨rfl, fun j j0 j1 => absurd j0 (by omega)⟩⟩
    · have := h.1 k k0 (by omega)
      rw [up_n _ _ e, up_n _ _ e, up_n _ _ e]
      exact ⟨this.1, this.2.1, NX_up_ne this.2.2 (hno k k0 (by omega))⟩
  · by_cases e : q = key
    · subst e
      rw [up_s, up_s]
      exact ⟨NX_up_new (fun k k0 k1 => hno k k0 k1) hn, LX_up_new hn⟩
    · have := h.2 q q0 q1
      rw [up_n _ _ e, up_n _ _ e]
      exact ⟨NX_up_ne this.1 e, LX_up_ne this.2 e⟩
theorem vCr_noteB {E n2 n key v : Int} {own ca fo fi la : Int → Int} (h : vCr E n2 n own ca fo fi la) (hn : 0 ≤ n) (hk : 0 ≤ key ∧ key < 40) (hv : 0 ≤ v ∧ v / 32 < E ∧ v % 32 < n2) (hl : la key ≠ -1) : vCr E n2 (n + 1) (up own n key) (up ca n v) (up (up fo n (-1)) (la key) n) fi (up la key n) := by
  have hL := (h.2 key hk.1 hk.2).2
  rcases hL with ⟨h1, _⟩ | ⟨hr, ho, hno⟩
  · exact absurd h1 hl
  refine ⟨fun k k0 k1 => ?_, fun q q0 q1 => ?_⟩
  · by_cases e : k = n
    · subst e
      rw [up_s, up_s, up_n _ _ (by omega), up_s]
      exact ⟨hk, hv, Or.inl ⟨rfl, fun j j0 j1 => absurd j0 (by omega)⟩⟩
    · have := h.1 k k0 (by omega)
      rw [up_n own _ e, up_n ca _ e]
      by_cases er : k = la key
      · rw [← er] at hr ho hno ⊢
        rw [up_s, ho]
        exact ⟨hk, this.2.1, NX_up_new (fun j j0 j1 => hno j (by omega) j1) (by omega)⟩
      · rw [up_n _ _ er, up_n _ _ e]
        refine ⟨this.1, this.2.1, ?_⟩
        by_cases ek : own k = key
        · refine NX_up_some this.2.2 (fun hf => ?_)
          have hlt : k < la key := by
            by_cases hx : k < la key
            · exact hx
            · exact absurd ek (hno k (by omega) (by omega))
          rcases this.2.2 with ⟨_, h2⟩ | ⟨h1, _, _⟩
          · exact h2 (la key) (by omega) (by omega) (by rw [ho, ek])
          · omega
        · exact NX_up_ne this.2.2 ek
  · have := h.2 q q0 q1
    by_cases e : q = key
    · subst e
      rw [up_s]
      refine ⟨NX_up_some this.1 (fun hf => ?_), LX_up_new hn⟩
      rcases this.1 with ⟨_, h2⟩ | ⟨h1, _, _⟩
      · exact h2 (la q) (by omega) (by omega) ho
      · omega
    · rw [up_n _ _ e]
      exact ⟨NX_up_ne this.1 e, LX_up_ne this.2 e⟩
/-- the callers of a key, as a list -/
def mCh (ca fo : Int → Int) : Nat → Int → List Int
  | 0, _ => []
  | n + 1, k => if k = -1 then [] else ca k :: mCh ca fo n (fo k)
def lC (own ca : Int → Int) (key : Int) : Nat → Int → List Int
  | 0, _ => []
  | m + 1, j => (if own j = key then [ca j] else []) ++ lC own ca key m (j + 1)
theorem mCh_z (ca fo : Int → Int) (n : Nat) : mCh ca fo n (-1) = [] := by cases n <;> rfl
theorem mCh_eq {E n2 n key : Int} {own ca fo fi la : Int → Int} (h : vCr E n2 n own ca fo fi la) (m : Nat) : ∀ (fuel : Nat) (j r : Int), 0 ≤ j → j + m = n → m ≤ fuel → NX own n key j r → mCh ca fo fuel r = lC own ca key m j := by
  induction m with
  | zero =>
    intro fuel j r h0 hj hf hx
    have : r = -1 := by
      rcases hx with ⟨h1, _⟩ | ⟨h1, _, _⟩
      · exact h1
      · omega
    rw [this, mCh_z]; rfl
  | succ m ih =>
    intro fuel j r h0 hj hf hx
    cases fuel with
    | zero => omega
    | succ fuel =>
      show mCh ca fo (fuel + 1) r = (if own j = key then [ca j] else []) ++ lC own ca key m (j + 1)
      by_cases ho : own j = key
      · have hr : r = j := by
          rcases hx with ⟨_, h2⟩ | ⟨h1, _, h3⟩
          · exact absurd ho (h2 j (Int.le_refl _) (by omega))
          · by_cases hrj : r = j
            · exact hrj
            · exact absurd ho (h3 j (Int.le_refl _) (by omega))
        subst hr
        have hk := (h.1 r h0 (by omega)).2.2
        rw [ho] at hk
        rw [if_pos ho]
        show (if r = -1 then [] else ca r :: mCh ca fo fuel (fo r)) = _
        rw [if_neg (by omega), ih fuel (r + 1) (fo r) (by omega) (by omega) (by omega) hk]; rfl
      · rw [if_neg ho]
        have hx2 : NX own n key (j + 1) r := by
          rcases hx with ⟨h1, h2⟩ | ⟨h1, h2, h3⟩
          · exact Or.inl ⟨h1, fun k k0 k1 => h2 k (by omega) k1⟩
          · have : j ≠ r := fun e => ho (by rw [e]; exact h2)
            exact Or.inr ⟨by omega, h2, fun k k0 k1 => h3 k (by omega) k1⟩
        exact ih (fuel + 1) (j + 1) r (by omega) (by omega) (by omega) hx2
theorem lC_snoc {n key key' v : Int} {own ca : Int → Int} (m : Nat) : ∀ j : Int, j + m = n → lC (up own n key) (up ca n v) key' (m + 1) j = lC own ca key' m j ++ (if key' = key then [v] else []) := by
  induction m with
  | zero =>
    intro j hj
    have : j = n := by omega
    subst this
    show (if up own j key j = key' then [up ca j v j] else []) ++ [] = [] ++ _
    rw [up_s, up_s, List.append_nil, List.nil_append]
    by_cases e : key' = key
    · rw [if_pos e, if_pos e.symm]
    · rw [if_neg e, if_neg (fun h => e h.symm)]
  | succ m ih =>
    intro j hj
    have ih' := ih (j + 1) (by omega)
    show (if up own n key j = key' then [up ca n v j] else []) ++ lC (up own n key) (up ca n v) key' (m + 1) (j + 1) = ((if own j = key' then [ca j] else []) ++ lC own ca key' m (j + 1)) ++ _
    rw [ih', up_n _ _ (by omega), up_n _ _ (by omega), List.append_assoc]
/-- the entries and their places -/
def vTr (N : Int → Int) (E : Int) (pl sf nd fc ah ins : Int → Int) : Prop := (∀ i : Int, 0 ≤ i → i < E → pl ((8 * nd i + sf i) * 8 + fc i) = i + 1 ∧ (-1 ≤ ah i ∧ ah i < i) ∧ (-1 ≤ ins i ∧ ins i < i) ∧ (0 ≤ nd i ∧ nd i < N 1) ∧ (0 ≤ sf i ∧ sf i < 8) ∧ (0 ≤ fc i ∧ fc i < 8) ∧ (N (14 + 2 * nd i + 1) = 0 → sf i = fc i)) ∧ (∀ k : Int, 0 ≤ k → k < 1536 → pl k = 0 ∨ ((1 ≤ pl k ∧ pl k ≤ E) ∧ (8 * nd (pl k - 1) + sf (pl k - 1)) * 8 + fc (pl k - 1) = k))
theorem vTr_comes {N : Int → Int} {E a n b y z : Int} {pl sf nd fc ah ins : Int → Int} (h : vTr N E pl sf nd fc ah ins) (hE : 0 ≤ E) (hp : pl ((8 * n + a) * 8 + b) = 0) (ha : 0 ≤ a ∧ a < 8) (hn : 0 ≤ n ∧ n < N 1) (hb : 0 ≤ b ∧ b < 8) (hy : -1 ≤ y ∧ y < E) (hz : -1 ≤ z ∧ z < E) (hs : N (14 + 2 * n + 1) = 0 → a = b) : vTr N (E + 1) (up pl ((8 * n + a) * 8 + b) (E + 1)) (up sf E a) (up nd E n) (up fc E b) (up ah E y) (up ins E z) := by
  refine ⟨fun i i0 i1 => ?_, fun k k0 k1 => ?_⟩
  · by_cases e : i = E
    · subst e
      rw [up_s, up_s, up_s, up_s, up_s, up_s]
      exact ⟨rfl, hy, hz, hn, ha, hb, hs⟩
    · have := h.1 i i0 (by omega)
      rw [up_n sf _ e, up_n nd _ e, up_n fc _ e, up_n ah _ e, up_n ins _ e]
      refine ⟨?_, this.2⟩
      rw [up_n _ _ (fun hh => ?_)]
      · exact this.1
      · have h1 := this.1
        rw [hh, hp] at h1
        omega
  · by_cases e : k = (8 * n + a) * 8 + b
    · subst e
      refine Or.inr ?_
      rw [up_s, show E + 1 - 1 = E by omega, up_s, up_s, up_s]
      exact ⟨by omega, rfl⟩
    · rw [up_n _ _ e]
      rcases h.2 k k0 k1 with h1 | ⟨h1, h2⟩
      · exact Or.inl h1
      · refine Or.inr ⟨by omega, ?_⟩
        rw [up_n nd _ (by omega), up_n sf _ (by omega), up_n fc _ (by omega)]
        exact h2

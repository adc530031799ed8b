/-! SIMULATION: THE TABLE, one coming -/
theorem it_rel {σ τ : Type} {f : Int → σ → σ} {g : Int → τ → τ} (R : Int → σ → τ → Prop) {b : Int} (n : Nat) : ∀ (i : Int) (s : σ) (t : τ), i + n = b → R i s t → (∀ j s t, i ≤ j → j < b → R j s t → R (j + 1) (f j s) (g j t)) → R b (it f n i s) (it g n i t) := by
  induction n with
  | zero => intro i s t h h0 _; have : i = b := by omega
            subst this; exact h0
  | succ n ih =>
    intro i s t h h0 hs
    rw [it_s, it_s]
    exact ih (i + 1) (f i s) (g i t) (by omega) (hs i s t (by omega) (by omega) h0) (fun j s t h1 h2 h3 => hs j s t (by omega) h2 h3)
def tWl (N : Int → Int) (T : Tb) (X : Md) (i : Int) : Prop := t_way T i = (if m_ahead X i = -1 then 1 else min (t_way T (m_ahead X i) + (1 + (if m_inside X i = -1 then 0 else t_inner T (m_inside X i)))) 1000) ∧ t_inner T i = (if m_ahead X i = -1 ∨ N (14 + 2 * m_node X i + 1) = 0 then 1 else min (t_inner T (m_ahead X i) + (1 + (if m_inside X i = -1 then 0 else t_inner T (m_inside X i)))) 1000)
def tR (N : Int → Int) (T : Tb) (X : Md) : Prop := t_size T = m_entries X ∧ (∀ i : Int, 0 ≤ i → i < m_entries X → (t_keys T i = mKey X i ∧ t_before T i = m_ahead X i ∧ t_through T i = m_inside X i) ∧ tWl N T X i) ∧ (∀ k : Int, 0 ≤ k → k < 1536 → m_place X k ≠ 0 → t_placeOf T k + 1 = m_place X k)
def sR (T : Tb) (X : Md) : Prop := ∀ c b : Int, 0 ≤ c → c < 192 → 0 ≤ b → b < 8 → (tb (t_seen T c) b = true ↔ m_place X (c * 8 + b) ≠ 0)
def fR (N : Int → Int) (T : Tb) (X : Md) : Prop := vV N X ∧ tOk T ∧ tR N T X ∧ sR T X
/-- what was in it stays -/
def tEx (T T' : Tb) : Prop := t_size T ≤ t_size T' ∧ (∀ i : Int, 0 ≤ i → i < t_size T → t_keys T' i = t_keys T i ∧ t_way T' i = t_way T i ∧ t_inner T' i = t_inner T i) ∧ (t_ready T' = t_ready T ∧ t_seedProc T' = t_seedProc T ∧ t_seedFacts T' = t_seedFacts T)
def tSi (T : Tb) : (Int → Int) × Int := (t_sites T, t_siteCount T)
theorem tEx_rf (T : Tb) : tEx T T := ⟨Int.le_refl _, fun _ _ _ => ⟨rfl, rfl, rfl⟩, rfl, rfl, rfl⟩
theorem tEx_tr {A B C : Tb} (h1 : tEx A B) (h2 : tEx B C) : tEx A C := by
  have a1 := h1.1
  have a2 := h2.1
  refine ⟨by omega, fun i i0 i1 => ?_, h2.2.2.1.trans h1.2.2.1, h2.2.2.2.1.trans h1.2.2.2.1, h2.2.2.2.2.trans h1.2.2.2.2⟩
  have e1 := h1.2.1 i i0 i1
  have e2 := h2.2.1 i i0 (by omega)
  exact ⟨e2.1.trans e1.1, e2.2.1.trans e1.2.1, e2.2.2.trans e1.2.2⟩
theorem bO_z0 {a : Int} (h : 0 ≤ a) : bO a 0 = a := by unfold bO; simp; omega
/-- one that is not in it yet comes behind the others -/
theorem push_sim {N : Int → Int} {P : Pg} {T : Tb} {X : Md} {a m b y z wl il : Int} (hv : vV N X) (hR : tR N T X) (hN1 : N 1 ≤ 24) (ha : 0 ≤ a ∧ a < 8) (hm : 0 ≤ m ∧ m < N 1) (hb : 0 ≤ b ∧ b < 8) (hy : -1 ≤ y ∧ y < m_entries X) (hz : -1 ≤ z ∧ z < m_entries X) (hp : m_place X ((8 * m + a) * 8 + b) = 0)
    (hw : wl = (if y = -1 then 1 else min (t_way T y + (1 + (if z = -1 then 0 else t_inner T z))) 1000)) (hi : il = (if y = -1 ∨ N (14 + 2 * m + 1) = 0 then 1 else min (t_inner T y + (1 + (if z = -1 then 0 else t_inner T z))) 1000)) :
    tR N (tPush T (m * 8 + a) b y z wl il) (mComes a m b y z X) := by
  have hE := hv.2.1.2.2.2.2.2.2.2.2.1
  have e : mComes a m b y z X = ms_place (ms_entries (ms_inside (ms_ahead (ms_fact (ms_node (ms_startFact X (up (m_startFact X) (m_entries X) a)) (up (m_node X) (m_entries X) m)) (up (m_fact X) (m_entries X) b)) (up (m_ahead X) (m_entries X) y)) (up (m_inside X) (m_entries X) z)) (m_entries X + 1)) (up (m_place X) ((8 * m + a) * 8 + b) (m_entries X + 1)) := if_pos hp
  have vtr := hv.2.2.2.1
  obtain ⟨h1, h2, h3⟩ := hR
  rw [e]
  refine ⟨show t_size T + 1 = m_entries X + 1 by omega, fun i i0 i1 => ?_, fun k k0 k1 hk => ?_⟩
  · have i2 : i < m_entries X + 1 := i1
    show (up (t_keys T) (t_size T) ((m * 8 + a) * 8 + b) i = (8 * up (m_node X) (m_entries X) m i + up (m_startFact X) (m_entries X) a i) * 8 + up (m_fact X) (m_entries X) b i ∧ up (t_before T) (t_size T) y i = up (m_ahead X) (m_entries X) y i ∧ up (t_through T) (t_size T) z i = up (m_inside X) (m_entries X) z i) ∧ (up (t_way T) (t_size T) wl i = (if up (m_ahead X) (m_entries X) y i = -1 then 1 else min (up (t_way T) (t_size T) wl (up (m_ahead X) (m_entries X) y i) + (1 + (if up (m_inside X) (m_entries X) z i = -1 then 0 else up (t_inner T) (t_size T) il (up (m_inside X) (m_entries X) z i)))) 1000) ∧ up (t_inner T) (t_size T) il i = (if up (m_ahead X) (m_entries X) y i = -1 ∨ N (14 + 2 * up (m_node X) (m_entries X) m i + 1) = 0 then 1 else min (up (t_inner T) (t_size T) il (up (m_ahead X) (m_entries X) y i) + (1 + (if up (m_inside X) (m_entries X) z i = -1 then 0 else up (t_inner T) (t_size T) il (up (m_inside X) (m_entries X) z i)))) 1000))
    rw [h1]
    by_cases hi2 : i = m_entries X
    · subst hi2
      rw [up_s, up_s, up_s, up_s, up_s, up_s, up_s, up_s, up_s, up_n _ wl (show y ≠ m_entries X by omega), up_n _ il (show z ≠ m_entries X by omega), up_n _ il (show y ≠ m_entries X by omega)]
      exact ⟨⟨by omega, rfl, rfl⟩, hw, (up_s _ _ _).trans hi⟩
    · have g := h2 i i0 (by omega)
      have v := vtr.1 i i0 (by omega)
      rw [up_n _ _ hi2, up_n _ _ hi2, up_n _ _ hi2, up_n _ _ hi2, up_n _ _ hi2, up_n _ _ hi2, up_n _ _ hi2, up_n _ _ hi2, up_n _ _ hi2, up_n _ _ hi2, up_n _ wl (show m_ahead X i ≠ m_entries X by omega), up_n _ il (show m_inside X i ≠ m_entries X by omega), up_n _ il (show m_ahead X i ≠ m_entries X by omega)]
      exact ⟨g.1, g.2⟩
  · have hk2 : up (m_place X) ((8 * m + a) * 8 + b) (m_entries X + 1) k ≠ 0 := hk
    show up (t_placeOf T) ((m * 8 + a) * 8 + b) (t_size T) k + 1 = up (m_place X) ((8 * m + a) * 8 + b) (m_entries X + 1) k
    rw [show (m * 8 + a) * 8 + b = (8 * m + a) * 8 + b by omega]
    by_cases e : k = (8 * m + a) * 8 + b
    · rw [e, up_s, up_s]; omega
    · rw [up_n _ _ e] at hk2
      rw [up_n _ _ e, up_n _ _ e]
      exact h3 k k0 k1 hk2
theorem tCome_eq {P : Pg} {T : Tb} {c x y z : Int} (hs : 0 ≤ t_seen T c) : tCome P c x y z T = it (tComeF c y z (tWay T y z) (tInn P T c y z) (bD x (t_seen T c))) 8 0 (ts_seen T (up (t_seen T) c (bO (t_seen T c) (bD x (t_seen T c))))) := by
  unfold tCome
  by_cases h : bD x (t_seen T c) = 0
  · rw [if_pos h, h, bO_z0 hs, up_id rfl]
    have : ∀ (wl il : Int), it (tComeF c y z wl il 0) 8 0 T = T := fun wl il => it_inv (fun _ Y => Y = T) (b := 8) 8 0 T (by omega) rfl (fun j Y _ _ hY => by
      unfold tComeF
      rw [if_neg (by rw [tb_0]; exact fun hh => absurd hh.1 (by decide))]; exact hY)
    exact (this _ _).symm
  · rw [if_neg h]
theorem tb_b1 {x k : Int} (hx : 0 ≤ x) (hk : 0 ≤ k) : bA (x / p2 k) 1 = 1 ↔ tb x k = true := by
  rw [tb_bit hx hk]
  by_cases h : tb x k = true
  · rw [if_pos h]; exact ⟨fun _ => h, fun _ => rfl⟩
  · rw [if_neg h]; exact ⟨fun hh => absurd hh (by decide), fun hh => absurd hh h⟩
/-- the loop over the FACTS of one coming -/
def cI (N : Int → Int) (T0 : Tb) (X0 : Md) (cell x : Int) (b : Int) (T : Tb) (X : Md) : Prop := vV N X ∧ tR N T X ∧ mEx X0 X ∧ mCa X = mCa X0 ∧ tEx T0 T ∧ tSi T = tSi T0 ∧ (∀ c : Int, t_seen T c = up (t_seen T0) cell (bO (t_seen T0 cell) (bD x (t_seen T0 cell))) c) ∧ (∀ k : Int, 0 ≤ k → k < 1536 → (m_place X k ≠ 0 ↔ (m_place X0 k ≠ 0 ∨ ∃ j : Int, 0 ≤ j ∧ j < b ∧ k = cell * 8 + j ∧ tb x j = true)))
theorem come_sim {N : Int → Int} {P : Pg} {T : Tb} {X : Md} {a m x y z : Int} (hN : nOk N) (hP : pR P N) (h : fR N T X) (ha : 0 ≤ a ∧ a < 8) (hm : 0 ≤ m ∧ m < N 1) (hx : 0 ≤ x ∧ x < 256) (hy : -1 ≤ y ∧ y < m_entries X) (hz : -1 ≤ z ∧ z < m_entries X) (hs : ∀ d : Int, 0 ≤ d → d < 8 → tb x d = true → N (14 + 2 * m + 1) = 0 → a = d) :
    fR N (tCome P (m * 8 + a) x y z T) (mAll a m x y z X) ∧ tEx T (tCome P (m * 8 + a) x y z T) ∧ tSi (tCome P (m * 8 + a) x y z T) = tSi T ∧ mEx X (mAll a m x y z X) ∧ mCa (mAll a m x y z X) = mCa X := by
  obtain ⟨hv, hT, hR, hS⟩ := h
  have h1 := hN.2.1
  have hE := hv.2.1.2.2.2.2.2.2.2.2.1
  have hcell : 0 ≤ m * 8 + a ∧ m * 8 + a < 192 := by omega
  have hsn := hT.2.2.2.2.1 (m * 8 + a) hcell.1 hcell.2
  have hk5 := (hP.2.2.2.2.2.1 m hm.1 hm.2).2
  have hOk : tOk (tCome P (m * 8 + a) x y z T) := tCome_ok hT hcell hx (by omega) (by omega)
  rw [tCome_eq hsn.1] at hOk ⊢
  have key := it_rel (f := tComeF (m * 8 + a) y z (tWay T y z) (tInn P T (m * 8 + a) y z) (bD x (t_seen T (m * 8 + a)))) (g := mAllF a m x y z) (cI N T X (m * 8 + a) x) (b := 8) 8 0 (ts_seen T (up (t_seen T) (m * 8 + a) (bO (t_seen T (m * 8 + a)) (bD x (t_seen T (m * 8 + a)))))) X (by omega)
    ⟨hv, hR, mEx_rf X, rfl, ⟨Int.le_refl _, fun _ _ _ => ⟨rfl, rfl, rfl⟩, rfl, rfl, rfl⟩, rfl, fun _ => rfl, fun k k0 k1 => ⟨fun hh => Or.inl hh, fun hh => hh.elim id (fun ⟨j, j0, j1, _⟩ => absurd j1 (by omega))⟩⟩
    (fun b T' X' b0 b1 hI => by
      obtain ⟨v, r, ex, ca, tx, si, sn, pl⟩ := hI
      have exE := ex.1
      have hbit := tb_b1 (x := x) (k := b) hx.1 (by omega)
      have hkey : (8 * m + a) * 8 + b = (m * 8 + a) * 8 + b := by omega
      have hseen := hS (m * 8 + a) b hcell.1 hcell.2 b0 b1
      have hpl := pl ((m * 8 + a) * 8 + b) (by omega) (by omega)
      have hpl2 : m_place X' ((m * 8 + a) * 8 + b) ≠ 0 ↔ m_place X ((m * 8 + a) * 8 + b) ≠ 0 := by
        rw [hpl]
        exact ⟨fun hh => hh.elim id (fun ⟨j, j0, j1, je, _⟩ => absurd je (by omega)), Or.inl⟩
      have hfresh : tb (bD x (t_seen T (m * 8 + a))) b = true ↔ (tb x b = true ∧ m_place X' ((8 * m + a) * 8 + b) = 0) := by
        rw [tb_D, hkey]
        constructor
        · intro hh
          have h2 : tb x b = true ∧ tb (t_seen T (m * 8 + a)) b = false := by
            cases h3 : tb x b <;> cases h4 : tb (t_seen T (m * 8 + a)) b <;> simp_all
          refine ⟨h2.1, Classical.byContradiction (fun hc => ?_)⟩
          have := hseen.mpr (hpl2.mp hc)
          rw [h2.2] at this; exact absurd this (by decide)
        · intro hh
          have h2 : tb (t_seen T (m * 8 + a)) b = false := by
            cases h4 : tb (t_seen T (m * 8 + a)) b with
            | false => rfl
            | true => exact absurd hh.2 (hpl2.mpr (hseen.mp h4))
          rw [hh.1, h2]; rfl
      have plstep : ∀ (X2 : Md), (∀ k : Int, 0 ≤ k → k < 1536 → (m_place X2 k ≠ 0 ↔ (m_place X' k ≠ 0 ∨ (k = (8 * m + a) * 8 + b ∧ tb x b = true)))) → ∀ k : Int, 0 ≤ k → k < 1536 → (m_place X2 k ≠ 0 ↔ (m_place X k ≠ 0 ∨ ∃ j : Int, 0 ≤ j ∧ j < b + 1 ∧ k = (m * 8 + a) * 8 + j ∧ tb x j = true)) := by
        intro X2 h2 k k0 k1
        rw [h2 k k0 k1, pl k k0 k1]
        constructor
        · rintro ((hh | ⟨j, j0, j1, j2, j3⟩) | ⟨hh, h3⟩)
          · exact Or.inl hh
          · exact Or.inr ⟨j, j0, by omega, j2, j3⟩
          · exact Or.inr ⟨b, b0, by omega, by omega, h3⟩
        · rintro (hh | ⟨j, j0, j1, j2, j3⟩)
          · exact Or.inl (Or.inl hh)
          · by_cases hj : j = b
            · subst hj; exact Or.inr ⟨by omega, j3⟩
            · exact Or.inl (Or.inr ⟨j, j0, by omega, j2, j3⟩)
      by_cases hxb : tb x b = true
      · have em : mAllF a m x y z b X' = mComes a m b y z X' := if_pos (hbit.mpr hxb)
        have g := vV_comes (a := a) (n := m) (b := b) (y := y) (z := z) hN v ha hm ⟨b0, b1⟩ (by omega) (by omega) (hs b b0 b1 hxb)
        rw [em]
        by_cases hp : m_place X' ((8 * m + a) * 8 + b) = 0
        · have hlt := mC_lt v.1 (by omega) (by omega) hp
          have et : tComeF (m * 8 + a) y z (tWay T y z) (tInn P T (m * 8 + a) y z) (bD x (t_seen T (m * 8 + a))) b T' = tPush T' (m * 8 + a) b y z (tWay T y z) (tInn P T (m * 8 + a) y z) := if_pos ⟨hfresh.mpr ⟨hxb, hp⟩, by rw [r.1]; exact hlt⟩
          rw [et]
          have wy : y ≠ -1 → t_way T' y = t_way T y ∧ t_inner T' y = t_inner T y := fun hh => (tx.2.1 y (by omega) (by rw [hR.1]; omega)).2
          have wz : z ≠ -1 → t_inner T' z = t_inner T z := fun hh => (tx.2.1 z (by omega) (by rw [hR.1]; omega)).2.2
          have hzz : (if z = -1 then 0 else t_inner T z) = (if z = -1 then 0 else t_inner T' z) := by
            by_cases hz1 : z = -1
            · rw [if_pos hz1, if_pos hz1]
            · rw [if_neg hz1, if_neg hz1, wz hz1]
          have p := push_sim (P := P) (T := T') (y := y) (z := z) (wl := tWay T y z) (il := tInn P T (m * 8 + a) y z) v r h1.2 ha hm ⟨b0, b1⟩ (by omega) (by omega) hp
            (by unfold tWay tWith
                rw [hzz]
                by_cases hy1 : y = -1
                · rw [if_pos hy1, if_pos hy1]
                · rw [if_neg hy1, if_neg hy1, (wy hy1).1])
            (by unfold tInn tWith
                rw [hzz, show (m * 8 + a) / 8 = m by omega, hk5]
                by_cases hy1 : y = -1 ∨ N (14 + 2 * m + 1) = 0
                · rw [if_pos hy1, if_pos hy1]
                · rw [if_neg hy1, if_neg hy1, (wy (fun hh => hy1 (Or.inl hh))).2])
          have tx2 : tEx T (tPush T' (m * 8 + a) b y z (tWay T y z) (tInn P T (m * 8 + a) y z)) := by
            have t1 := tx.1
            refine ⟨show t_size T ≤ t_size T' + 1 by omega, fun i i0 i1 => ?_, tx.2.2⟩
            have := tx.2.1 i i0 i1
            exact ⟨(up_n _ _ (by omega)).trans this.1, (up_n _ _ (by omega)).trans this.2.1, (up_n _ _ (by omega)).trans this.2.2⟩
          refine ⟨g.1, p, mEx_tr ex g.2, (mComes_Ca _ _ _ _ _ _).trans ca, tx2, si, sn, plstep _ (fun k k0 k1 => ?_)⟩
          have e2 : m_place (mComes a m b y z X') k = up (m_place X') ((8 * m + a) * 8 + b) (m_entries X' + 1) k := by
            rw [show mComes a m b y z X' = ms_place (ms_entries (ms_inside (ms_ahead (ms_fact (ms_node (ms_startFact X' (up (m_startFact X') (m_entries X') a)) (up (m_node X') (m_entries X') m)) (up (m_fact X') (m_entries X') b)) (up (m_ahead X') (m_entries X') y)) (up (m_inside X') (m_entries X') z)) (m_entries X' + 1)) (up (m_place X') ((8 * m + a) * 8 + b) (m_entries X' + 1)) from if_pos hp]
          rw [e2, up_a]
          by_cases hk : k = (8 * m + a) * 8 + b
          · rw [if_pos hk]; exact ⟨fun _ => Or.inr ⟨hk, hxb⟩, fun _ => by omega⟩
          · rw [if_neg hk]; exact ⟨Or.inl, fun hh => hh.elim id (fun h9 => absurd h9.1 hk)⟩
        · have et : tComeF (m * 8 + a) y z (tWay T y z) (tInn P T (m * 8 + a) y z) (bD x (t_seen T (m * 8 + a))) b T' = T' := if_neg (fun hh => hp (hfresh.mp hh.1).2)
          have em2 : mComes a m b y z X' = X' := if_neg hp
          rw [et, em2]
          refine ⟨v, r, ex, ca, tx, si, sn, plstep _ (fun k k0 k1 => ⟨Or.inl, fun hh => hh.elim id (fun h9 => by rw [h9.1]; exact hp)⟩)⟩
      · have em : mAllF a m x y z b X' = X' := if_neg (fun hh => hxb (hbit.mp hh))
        have et : tComeF (m * 8 + a) y z (tWay T y z) (tInn P T (m * 8 + a) y z) (bD x (t_seen T (m * 8 + a))) b T' = T' := if_neg (fun hh => hxb (hfresh.mp hh.1).1)
        rw [em, et]
        exact ⟨v, r, ex, ca, tx, si, sn, plstep _ (fun k k0 k1 => ⟨Or.inl, fun hh => hh.elim id (fun h9 => absurd h9.2 hxb)⟩)⟩)
  obtain ⟨v, r, ex, ca, tx, si, sn, pl⟩ := key
  refine ⟨⟨v, hOk, r, fun c b c0 c1 b0 b1 => ?_⟩, tx, si, ex, ca⟩
  have pl2 : m_place (mAll a m x y z X) (c * 8 + b) ≠ 0 ↔ _ := pl (c * 8 + b) (by omega) (by omega)
  rw [sn c, pl2, up_a]
  have hseen := hS c b c0 c1 b0 b1
  by_cases hc : c = m * 8 + a
  · subst hc
    rw [if_pos rfl, tb_O, tb_D]
    rw [Bool.or_eq_true, Bool.and_eq_true]
    constructor
    · rintro (hh | ⟨hh, _⟩)
      · exact Or.inl (hseen.mp hh)
      · exact Or.inr ⟨b, b0, b1, rfl, hh⟩
    · rintro (hh | ⟨j, j0, j1, j2, j3⟩)
      · exact Or.inl (hseen.mpr hh)
      · have : j = b := by omega
        subst this
        cases h4 : tb (t_seen T (m * 8 + a)) j with
        | true => exact Or.inl rfl
        | false => exact Or.inr ⟨j3, rfl⟩
  · rw [if_neg hc, hseen]
    exact ⟨Or.inl, fun hh => hh.elim id (fun ⟨j, j0, j1, j2, _⟩ => absurd j2 (by omega))⟩

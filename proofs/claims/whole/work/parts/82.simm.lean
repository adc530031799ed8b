/-! SIMULATION: what holds -/
theorem facts_sim {N : Int → Int} {T : Tb} {X : Md} {n : Int} (h : fR N T X) (hn : 0 ≤ n ∧ n < 24) : tFacts T n = hHeld (m_place X) n := by
  have r1 := tFacts_r h.2.1 hn
  have r2 := hHeld_q (m_place X) n
  refine tb_ext r1.1 r1.2 r2.1 r2.2 (fun d d0 d1 => ?_)
  have c1 : tb (tFacts T n) d = true ↔ ∃ a : Int, 0 ≤ a ∧ a < 8 ∧ m_place X ((8 * n + a) * 8 + d) ≠ 0 := by
    unfold tFacts
    refine it_inv (fun i r => tb r d = true ↔ ∃ a : Int, 0 ≤ a ∧ a < i ∧ m_place X ((8 * n + a) * 8 + d) ≠ 0) (b := 8) 8 0 0 (by omega) ?_ (fun a r a0 a1 hr => ?_)
    · rw [tb_0]; exact ⟨fun hh => absurd hh (by decide), fun ⟨a, a0, a1, _⟩ => absurd a1 (by omega)⟩
    · have hs := h.2.2.2 (n * 8 + a) d (by omega) (by omega) d0 d1
      rw [show (n * 8 + a) * 8 + d = (8 * n + a) * 8 + d by omega] at hs
      rw [tb_Or, hr, hs]
      constructor
      · rintro (⟨c, c0, c1, c2⟩ | hh)
        · exact ⟨c, c0, by omega, c2⟩
        · exact ⟨a, a0, by omega, hh⟩
      · rintro ⟨c, c0, c1, c2⟩
        by_cases hc : c = a
        · subst hc; exact Or.inr c2
        · exact Or.inl ⟨c, c0, by omega, c2⟩
  have c2 : tb (hHeld (m_place X) n) d = true ↔ ∃ a : Int, 0 ≤ a ∧ a < 8 ∧ m_place X ((8 * n + a) * 8 + d) ≠ 0 := by
    unfold hHeld
    refine it_inv (fun i r => tb r d = true ↔ ∃ a : Int, 0 ≤ a ∧ a < i ∧ m_place X ((8 * n + a) * 8 + d) ≠ 0) (b := 8) 8 0 0 (by omega) ?_ (fun a r a0 a1 hr => ?_)
    · rw [tb_0]; exact ⟨fun hh => absurd hh (by decide), fun ⟨a, a0, a1, _⟩ => absurd a1 (by omega)⟩
    · have inner := it_inv (f := fun b r => bO r (if 0 < m_place X ((8 * n + a) * 8 + b) then p2 b else 0)) (fun i s => tb s d = true ↔ (tb r d = true ∨ (d < i ∧ m_place X ((8 * n + a) * 8 + d) ≠ 0))) (b := 8) 8 0 r (by omega) ⟨Or.inl, fun hh => hh.elim id (fun h9 => absurd h9.1 (by omega))⟩ (fun b s b0 b1 hs => by
        have hp := h.1.2.2.2.1.2 ((8 * n + a) * 8 + b) (by omega) (by omega)
        show tb (bO s (if 0 < m_place X ((8 * n + a) * 8 + b) then p2 b else 0)) d = true ↔ _
        rw [tb_Or, hs]
        by_cases hc : 0 < m_place X ((8 * n + a) * 8 + b)
        · rw [if_pos hc, tb_p2i b0 d0]
          constructor
          · rintro ((hh | hh) | hh)
            · exact Or.inl hh
            · exact Or.inr ⟨by omega, hh.2⟩
            · exact Or.inr ⟨by omega, by rw [hh]; omega⟩
          · rintro (hh | hh)
            · exact Or.inl (Or.inl hh)
            · by_cases hd : d = b
              · exact Or.inr hd
              · exact Or.inl (Or.inr ⟨by omega, hh.2⟩)
        · rw [if_neg hc, tb_0]
          constructor
          · rintro ((hh | hh) | hh)
            · exact Or.inl hh
            · exact Or.inr ⟨by omega, hh.2⟩
            · exact absurd hh (by decide)
          · rintro (hh | hh)
            · exact Or.inl (Or.inl hh)
            · by_cases hd : d = b
              · rw [hd] at hh; omega
              · exact Or.inl (Or.inr ⟨by omega, hh.2⟩))
      show tb (it (fun b r => bO r (if 0 < m_place X ((8 * n + a) * 8 + b) then p2 b else 0)) 8 0 r) d = true ↔ _
      rw [inner, hr]
      constructor
      · rintro (⟨c, c0, c1, c2⟩ | hh)
        · exact ⟨c, c0, by omega, c2⟩
        · exact ⟨a, a0, by omega, hh.2⟩
      · rintro ⟨c, c0, c1, c2⟩
        by_cases hc : c = a
        · subst hc; exact Or.inr ⟨d1, c2⟩
        · exact Or.inl ⟨c, c0, by omega, c2⟩
  cases t1 : tb (tFacts T n) d with
  | true => exact (c2.mpr (c1.mp t1)).symm
  | false =>
    cases t2 : tb (hHeld (m_place X) n) d with
    | true => exact absurd ((c1.mpr (c2.mp t2)).symm.trans t1) (by decide)
    | false => rfl
theorem reached_sim {N : Int → Int} {P0 : Pg} {T : Tb} {X : Md} (h : fR N T X) (hN : nOk N) (hP : pR P0 N) : fReached P0 T = mReached X := by
  have n1 := hN.2.1
  unfold fReached mReached
  rw [h.1.2.2.1, hP.2.1]
  exact it_rel (f := fun n r => r + bA (tFacts T n) 1) (g := fun k r => r + bA (hHeld (m_place X) k) 1) (fun _ s t => s = t) (b := N 1) (N 1).toNat 0 0 0 (by omega) rfl (fun n s t n0 n1' hI => by
    show s + bA (tFacts T n) 1 = t + bA (hHeld (m_place X) n) 1
    rw [hI, facts_sim h (by omega)])
theorem counted_sim {N : Int → Int} {P0 : Pg} {T T' : Tb} {X : Md} {w : Int} (h : fR N T X) (hN : nOk N) (hP : pR P0 N) (hw : 0 ≤ w ∧ w ≤ 5) (hT : 4 ≤ w → T' = T) : fCounted P0 T' w = mCountOf X w := by
  have hX := h.1.2.2.1
  unfold fCounted mCountOf
  have : w = 0 ∨ w = 1 ∨ w = 2 ∨ w = 3 ∨ w = 4 ∨ w = 5 := by omega
  rcases this with rfl | rfl | rfl | rfl | rfl | rfl
  · show p_procs P0 = m_now X 0; rw [hX]; exact hP.1
  · show p_nodes P0 = m_now X 1; rw [hX]; exact hP.2.1
  · show p_edges P0 = m_now X 2; rw [hX]; exact hP.2.2.1
  · show p_start P0 = m_now X 3; rw [hX]; exact hP.2.2.2.1
  · show t_size T' = m_entries X; rw [hT (by omega)]; exact h.2.2.1.1
  · show fReached P0 T' = mReached X; rw [hT (by omega)]; exact reached_sim h hN hP
section QS
variable {k : Int} {M : Mf} {T : Tb} {U : Sp} {X : Tx} {P : Nat → Pg} {D : Md}
theorem s_count {w : Int} (h : gS k M T U X P D) (hk : 0 ≤ k ∧ k < 1000000) : (fCount (P 0) w M T).1 = (mCount w D).1 ∧ gS (k + 1) (fCount (P 0) w M T).2.1 (fCount (P 0) w M T).2.2 U X P (mCount w D).2 := by
  obtain ⟨q1, q2, q3, q4⟩ := gS_q h
  unfold fCount mCount
  by_cases hc : 0 ≤ w ∧ w ≤ 5
  · rw [if_pos hc, if_pos hc]
    by_cases h4 : w < 4
    · rw [if_pos h4]
      exact ⟨counted_sim q3 h.2.2.1.2.2.2.2.2.1 h.2.1.1 hc (fun hh => absurd hh (by omega)), gS_mono q2 (by omega)⟩
    · rw [if_neg h4]
      exact ⟨counted_sim q3 h.2.2.1.2.2.2.2.2.1 h.2.1.1 hc (fun _ => rfl), gS_mono q1 (by omega)⟩
  · rw [if_neg hc, if_neg hc]; exact ⟨rfl, gS_ref h hk (Or.inl ⟨rfl, rfl⟩)⟩
theorem s_holds {n : Int} (h : gS k M T U X P D) (hk : 0 ≤ k ∧ k < 1000000) : (fHolds (P 0) n M T).1 = (mHolds n D).1 ∧ gS (k + 1) (fHolds (P 0) n M T).2.1 (fHolds (P 0) n M T).2.2 U X P (mHolds n D).2 := by
  obtain ⟨q1, q2, q3, q4⟩ := gS_q h
  have e1 := h.2.1.1.2.1
  have n1 := h.2.2.1.2.2.2.2.2.1.2.1
  unfold fHolds mHolds
  by_cases hc : 0 ≤ n ∧ n ≤ m_now D 1 - 1
  · rw [if_pos hc, if_pos (by omega)]
    exact ⟨facts_sim q3 (by omega), gS_mono q1 (by omega)⟩
  · rw [if_neg hc, if_neg (by omega)]; exact ⟨rfl, gS_ref h hk (Or.inl ⟨rfl, rfl⟩)⟩
theorem gU_fill {P0 : Pg} {U : Sp} (h : gU P0 U) : ∃ U0 : Sp, uFill P0 U = uFresh P0 U0 := by
  unfold uFill
  by_cases hc : u_ready U ≠ 0
  · rw [if_pos hc]; exact h hc
  · rw [if_neg hc]; exact ⟨U, rfl⟩
theorem gS_l (h : gS k M T U X P D) : gS k M T (uFill (P 0) U) X P (mLo D) ∧ ∀ n : Int, 0 ≤ n → n < 24 → u_reached (uFill (P 0) U) n = m_loose (mLo D) n := by
  obtain ⟨_, ⟨p1, _⟩, ⟨o1, o2, o3, o4, o5, o6, o7⟩, g1, g2, g3⟩ := id h
  have hl : lOk (m_loose D) := o5.2.2.2.2.2.2.2.2.2.2.2.2.2.2.2.1
  have u := gU_fill g2
  have ok := mLo_ok o5 o6 o7
  refine ⟨gS_D h (Int.le_refl _) rfl ok o1 (uFill_ok (o4 0 (by omega)) o2) g1 (fun _ => u) g3, fun n n0 n1 => ?_⟩
  obtain ⟨U0, hu⟩ := u
  rw [hu]
  exact lGood_u o6 (loose_sim o6 p1 o7).1 (ref_good o6 o7 hl) ⟨n0, n1⟩
theorem s_loose {n : Int} (h : gS k M T U X P D) (hk : 0 ≤ k ∧ k < 1000000) : (fLoose (P 0) n M U).1 = (mLoose n D).1 ∧ gS (k + 1) (fLoose (P 0) n M U).2.1 T (fLoose (P 0) n M U).2.2 X P (mLoose n D).2 := by
  have e1 := h.2.1.1.2.1
  have n1 := h.2.2.1.2.2.2.2.2.1.2.1
  obtain ⟨q1, q2⟩ := gS_l h
  unfold fLoose mLoose
  by_cases hc : 0 ≤ n ∧ n ≤ m_now D 1 - 1
  · rw [if_pos hc, if_pos (by omega)]
    exact ⟨q2 n (by omega) (by omega), gS_mono q1 (by omega)⟩
  · rw [if_neg hc, if_neg (by omega)]; exact ⟨rfl, gS_ref h hk (Or.inl ⟨rfl, rfl⟩)⟩
theorem s_entry {i w : Int} (h : gS k M T U X P D) (hk : 0 ≤ k ∧ k < 1000000) : (fEntryA (P 0) i w M T).1 = (mEntry i w D).1 ∧ gS (k + 1) (fEntryA (P 0) i w M T).2.1 (fEntryA (P 0) i w M T).2.2 U X P (mEntry i w D).2 := by
  obtain ⟨q1, q2, q3, q4⟩ := gS_q h
  unfold fEntryA mEntry
  by_cases hc : 0 ≤ i ∧ 0 ≤ w ∧ w ≤ 3
  · rw [if_pos hc, if_pos hc]
    refine ⟨?_, gS_mono q1 (by omega)⟩
    show (if i < t_size (tFill (P 0) 0 (p_start (P 0)) T) then fEntry (P 0) (tFill (P 0) 0 (p_start (P 0)) T) i w else -1) = mEntA (mKn D) i w
    have hsz := q3.2.2.1.1
    unfold mEntA
    by_cases hi : m_entries (mKn D) ≤ i
    · rw [if_pos hi, if_neg (by omega)]
    · rw [if_neg hi, if_pos (by omega)]
      have ff := fR_fact q3 (t := i) (by omega)
      have v := q3.1.2.2.2.1.1 i (by omega) (by omega)
      have pn := (h.2.1.1.2.2.2.2.2.1 (m_node (mKn D) i) v.2.2.2.1.1 v.2.2.2.1.2).1
      unfold fEntry
      have : w = 0 ∨ w = 1 ∨ w = 2 ∨ w = 3 := by omega
      rcases this with rfl | rfl | rfl | rfl
      · show p_procOf (P 0) (tNode (tFill (P 0) 0 (p_start (P 0)) T) i) = m_now (mKn D) (14 + 2 * m_node (mKn D) i)
        rw [ff.2.2, pn, q4]
      · exact ff.2.1
      · exact ff.2.2
      · exact ff.1
  · rw [if_neg hc, if_neg hc]; exact ⟨rfl, gS_ref h hk (Or.inl ⟨rfl, rfl⟩)⟩
theorem s_witness {n f i : Int} (h : gS k M T U X P D) (hk : 0 ≤ k ∧ k < 1000000) : (fWitness (P 0) n f i M T).1 = (mWitness n f i D).1 ∧ gS (k + 1) (fWitness (P 0) n f i M T).2.1 (fWitness (P 0) n f i M T).2.2 U X P (mWitness n f i D).2 := by
  obtain ⟨q1, q2, q3, q4⟩ := gS_q h
  have e1 := h.2.1.1.2.1
  have n1 := h.2.2.1.2.2.2.2.2.1.2.1
  unfold fWitness mWitness
  by_cases hc : (0 ≤ n ∧ n ≤ m_now D 1 - 1) ∧ (0 ≤ f ∧ f ≤ 7) ∧ -1 ≤ i
  · rw [if_pos hc, if_pos (show (0 ≤ n ∧ n < p_nodes (P 0)) ∧ (0 ≤ f ∧ f < 8) ∧ -1 ≤ i by omega)]
    have ws := wit_sim (n := n) (f := f) (i := i) q3 (by omega) (by omega) hc.2.2
    by_cases hx : 1536 < mFst (mKn D) n f
    · rw [if_pos hx] at ws ⊢
      exact ⟨ws, gS_mono q1 (by omega)⟩
    · rw [if_neg hx] at ws ⊢
      refine ⟨ws, ?_⟩
      have hE := q3.1.2.1.2.2.2.2.2.2.2.2.1
      have hx2 : 0 ≤ mFst (mKn D) n f - 1 ∧ mFst (mKn D) n f - 1 < m_entries (mKn D) := by
        rcases first_sim (n := n) (f := f) q3 (by omega) (by omega) with ⟨_, h2⟩ | ⟨h1, h2⟩
        · omega
        · omega
      have hw := fR_ord q3.1
      have ok := mSp_ok (x := mFst (mKn D) n f - 1) q3.1.2.1 (by omega) (fun j j0 j1 => hw j j0 (by omega))
      exact gS_D q1 (by omega) rfl ok q1.2.2.1.1 q1.2.2.1.2.1 (by rw [q4]; exact q4 ▸ q1.2.2.2.1) q1.2.2.2.2.1 q1.2.2.2.2.2
  · rw [if_neg hc, if_neg (show ¬ ((0 ≤ n ∧ n < p_nodes (P 0)) ∧ (0 ≤ f ∧ f < 8) ∧ -1 ≤ i) by omega)]; exact ⟨rfl, gS_ref h hk (Or.inl ⟨rfl, rfl⟩)⟩
theorem s_origins {n f : Int} (h : gS k M T U X P D) (hk : 0 ≤ k ∧ k < 1000000) : (fOrigins (P 0) n f M T).1 = (mOrigins n f D).1 ∧ gS (k + 1) (fOrigins (P 0) n f M T).2.1 (fOrigins (P 0) n f M T).2.2 U X P (mOrigins n f D).2 := by
  obtain ⟨_, ⟨p1, _⟩, ⟨o1, o2, o3, o4, o5, o6, o7⟩, g1, g2, g3⟩ := id h
  have e1 := p1.2.1
  have n1 := o6.2.1
  have en := nEnd_q (m_now D) 4 o6 (by omega)
  have w0 := o7.2.1 0 (by omega) (by have := o7.1; omega)
  unfold fOrigins mOrigins
  by_cases hc : (0 ≤ n ∧ n ≤ m_now D 1 - 1) ∧ (0 ≤ f ∧ f ≤ 7)
  · rw [if_pos hc, if_pos (show (0 ≤ n ∧ n < p_nodes (P 0)) ∧ (0 ≤ f ∧ f < 8) by omega)]
    have key := it_rel (f := fOrigF (P 0) n f) (g := mOrF (m_now D) n f) (fun _ s t => s.1 = t.1 ∧ 0 ≤ s.1 ∧ tOk s.2 ∧ gT (P 0) (m_now D) s.2 ∧ mOk t.2 ∧ mN t.2 = mN D) (b := 8) 8 0 (0, T) (0, D) (by omega) ⟨rfl, Int.le_refl _, o1, g1, o5, rfl⟩ (fun a s t a0 a1 hI => by
      obtain ⟨i1, i2, i3, i4, i5, i6⟩ := hI
      have tn : m_now t.2 = m_now D := congrArg (fun q => q.2.1) i6
      have hp := p2_0 a
      have hp2 := p2_8 (k := a) (by omega)
      have hq : 0 ≤ (0 : Int) ∧ 0 < m_now D 0 := ⟨by omega, by have := o7.1; omega⟩
      have fl := gT_fill (q := 0) (s := p2 a) (o4 0 (by omega)) i3 i4 o6 hq (by omega)
      have ov := mOrg_v (n := m_now D 4) (a := a) o6 o7 i5 tn ⟨en.1, w0.1⟩ ⟨a0, a1⟩
      have fr : fR (m_now D) (tFill (P 0) 0 (p2 a) s.2) (mOrg (m_now D 4) a t.2) := by
        obtain ⟨T0, t1, t2⟩ := fl.2
        have s9 := (fill_sim o6 o7 p1 hq (s := p2 a) (by omega) t1 i5 tn).1
        rw [mOrg_fill ⟨a0, a1⟩, t2]; exact s9
      have fs := facts_sim (n := n) fr (by omega)
      have hb := tb_b1 (x := hHeld (m_place (mOrg (m_now D 4) a t.2)) n) (k := f) (hHeld_q _ _).1 (by omega)
      refine ⟨?_, ?_, fl.1, gT_new o6 o7 p1 hq (by omega) fl.2 o5 rfl, ov.1.2.1, ov.2.trans i6⟩
      · show (if tb (tFacts (tFill (P 0) 0 (p2 a) s.2) n) f = true then bO s.1 (p2 a) else s.1) = bO t.1 (if bA (hHeld (m_place (mOrg (m_now D 4) a t.2)) n / p2 f) 1 = 1 then p2 a else 0)
        rw [fs, ← i1]
        by_cases ht : tb (hHeld (m_place (mOrg (m_now D 4) a t.2)) n) f = true
        · rw [if_pos ht, if_pos (hb.mpr ht)]
        · rw [if_neg ht, if_neg (fun hh => ht (hb.mp hh)), bO_z0 i2]
      · show 0 ≤ (if tb (tFacts (tFill (P 0) 0 (p2 a) s.2) n) f = true then bO s.1 (p2 a) else s.1)
        split
        · exact bO_0 _ _
        · exact i2)
    have eA : it (mOrF (m_now D) n f) 8 0 (0, D) = mOrAll n f D := rfl
    rw [eA] at key
    generalize it (fOrigF (P 0) n f) 8 0 (0, T) = A at key
    generalize mOrAll n f D = B at key
    obtain ⟨i1, i2, i3, i4, i5, i6⟩ := key
    refine ⟨i1, gS_D h (by omega) ?_ (mOk_known i5) i3 o2 i4 g2 (fun hh => absurd rfl hh)⟩
    exact congrArg (fun (q : (Int → Int) × (Int → Int) × (Int → Int) × Int × Int × (Int → Int) × (Int → Int) × Int × (Int → Int) × Int × (Int → Int) × Int × (Int → Int) × Int × Int) => (q.1, q.2.1, q.2.2.1, q.2.2.2.1, q.2.2.2.2.2.2.2.2.2.2.1, q.2.2.2.2.2.2.2.2.2.2.2.1)) i6
  · rw [if_neg hc, if_neg (show ¬ ((0 ≤ n ∧ n < p_nodes (P 0)) ∧ (0 ≤ f ∧ f < 8)) by omega)]; exact ⟨rfl, gS_ref h hk (Or.inl ⟨rfl, rfl⟩)⟩
end QS

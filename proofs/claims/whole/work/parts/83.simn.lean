/-! SIMULATION: summaries, the digest -/
theorem carry_sum {N : Int → Int} {e x d : Int} (hx : 0 ≤ x) : tb (nCarry N e 2 x) d = true ↔ ∃ a : Int, 0 ≤ a ∧ a < 8 ∧ tb x a = true ∧ tb (N (62 + 27 * e + 3 + 8 * 2 + a)) d = true := nCarry_tb hx
theorem sum_sim {N : Int → Int} {P0 : Pg} {T : Tb} {K : Md} {e b q x : Int} (hN : nOk N) (hw : nWf N) (hP : pR P0 N) (h : fR N T K) (he : 0 ≤ e ∧ e < N 2) (hb : 0 ≤ b ∧ b < 8) (hq : N (62 + 27 * e + 2) = q) (hq1 : q ≠ -1) (hx : x = N (62 + 27 * e + 3 + 8 * 1 + b)) :
    it (fun c r => if tb x c = true then bO r (pCarry P0 e 2 (t_seen T (N (4 + 2 * q + 1) * 8 + c))) else r) 8 0 0 = mSumR K e b q := by
  have n2 := hN.2.2.1
  have n0 := hN.1
  have q2 := nEdge_q N e 2 hN (by omega) (by omega)
  rw [hq] at q2
  have ex := nEnd_q N (4 + 2 * q + 1) hN (by omega)
  have hX := h.1.2.2.1
  have flx := nFlow_q N e 1 b hN (by omega) (by omega) hb
  have r1 := it_inv (f := fun c r => if tb x c = true then bO r (pCarry P0 e 2 (t_seen T (N (4 + 2 * q + 1) * 8 + c))) else r) (fun _ r => 0 ≤ r ∧ r < 256) (b := 8) 8 0 0 (by omega) (by omega) (fun c r c0 c1 hr => by
    have cr := pCarry_r P0 e 2 (t_seen T (N (4 + 2 * q + 1) * 8 + c))
    show 0 ≤ (if tb x c = true then bO r (pCarry P0 e 2 (t_seen T (N (4 + 2 * q + 1) * 8 + c))) else r) ∧ (if tb x c = true then bO r (pCarry P0 e 2 (t_seen T (N (4 + 2 * q + 1) * 8 + c))) else r) < 256
    split
    · exact ⟨bO_0 _ _, bO_8 hr.2 cr.2⟩
    · exact hr)
  have r2i : ∀ c r : Int, 0 ≤ r ∧ r < 256 → 0 ≤ it (mSumI K e b q c) 8 0 r ∧ it (mSumI K e b q c) 8 0 r < 256 := fun c r hr => it_inv (f := mSumI K e b q c) (fun _ s => 0 ≤ s ∧ s < 256) (b := 8) 8 0 r (by omega) hr (fun f s f0 f1 hs => by
    have fl := nFlow_q N e 2 f hN (by omega) (by omega) ⟨f0, f1⟩
    unfold mSumI
    rw [hX]
    refine ⟨bO_0 _ _, bO_8 hs.2 ?_⟩
    split <;> omega)
  have r2 : 0 ≤ mSumR K e b q ∧ mSumR K e b q < 256 := it_inv (f := fun c r => it (mSumI K e b q c) 8 0 r) (fun _ s => 0 ≤ s ∧ s < 256) (b := 8) 8 0 0 (by omega) (by omega) (fun c r _ _ hr => r2i c r hr)
  refine tb_ext r1.1 r1.2 r2.1 r2.2 (fun d d0 d1 => ?_)
  have seen : ∀ c : Int, 0 ≤ c → c < 8 → (tb (pCarry P0 e 2 (t_seen T (N (4 + 2 * q + 1) * 8 + c))) d = true ↔ ∃ f : Int, 0 ≤ f ∧ f < 8 ∧ m_place K ((8 * N (4 + 2 * q + 1) + c) * 8 + f) ≠ 0 ∧ tb (N (62 + 27 * e + 3 + 8 * 2 + f)) d = true) := by
    intro c c0 c1
    have sr := h.2.1.2.2.2.2.1 (N (4 + 2 * q + 1) * 8 + c) (by omega) (by omega)
    rw [pCarry_eq hP he (by omega) sr.1, nCarry_tb sr.1]
    constructor
    · rintro ⟨f, f0, f1, f2, f3⟩
      have hs := h.2.2.2 (N (4 + 2 * q + 1) * 8 + c) f (by omega) (by omega) f0 f1
      rw [show (N (4 + 2 * q + 1) * 8 + c) * 8 + f = (8 * N (4 + 2 * q + 1) + c) * 8 + f by omega] at hs
      exact ⟨f, f0, f1, hs.mp f2, f3⟩
    · rintro ⟨f, f0, f1, f2, f3⟩
      have hs := h.2.2.2 (N (4 + 2 * q + 1) * 8 + c) f (by omega) (by omega) f0 f1
      rw [show (N (4 + 2 * q + 1) * 8 + c) * 8 + f = (8 * N (4 + 2 * q + 1) + c) * 8 + f by omega] at hs
      exact ⟨f, f0, f1, hs.mpr f2, f3⟩
  have c1 := it_inv (f := fun c r => if tb x c = true then bO r (pCarry P0 e 2 (t_seen T (N (4 + 2 * q + 1) * 8 + c))) else r) (fun i r => tb r d = true ↔ ∃ c : Int, (0 ≤ c ∧ c < i) ∧ tb x c = true ∧ ∃ f : Int, 0 ≤ f ∧ f < 8 ∧ m_place K ((8 * N (4 + 2 * q + 1) + c) * 8 + f) ≠ 0 ∧ tb (N (62 + 27 * e + 3 + 8 * 2 + f)) d = true) (b := 8) 8 0 0 (by omega) (by
      rw [tb_0]; exact ⟨fun hh => absurd hh (by decide), fun ⟨c, c0, _⟩ => absurd c0 (by omega)⟩) (fun c r c0 c1 hr => by
    show tb (if tb x c = true then bO r (pCarry P0 e 2 (t_seen T (N (4 + 2 * q + 1) * 8 + c))) else r) d = true ↔ _
    by_cases hc : tb x c = true
    · rw [if_pos hc, tb_Or, hr, seen c c0 c1]
      constructor
      · rintro (⟨c', h1, h2, h3⟩ | hh)
        · exact ⟨c', by omega, h2, h3⟩
        · exact ⟨c, by omega, hc, hh⟩
      · rintro ⟨c', h1, h2, h3⟩
        by_cases he' : c' = c
        · subst he'; exact Or.inr h3
        · exact Or.inl ⟨c', by omega, h2, h3⟩
    · rw [if_neg hc, hr]
      constructor
      · rintro ⟨c', h1, h2, h3⟩; exact ⟨c', by omega, h2, h3⟩
      · rintro ⟨c', h1, h2, h3⟩
        by_cases he' : c' = c
        · subst he'; exact absurd h2 hc
        · exact ⟨c', by omega, h2, h3⟩)
  have inner : ∀ c r : Int, 0 ≤ c → c < 8 → (tb (it (mSumI K e b q c) 8 0 r) d = true ↔ (tb r d = true ∨ (tb x c = true ∧ ∃ f : Int, 0 ≤ f ∧ f < 8 ∧ m_place K ((8 * N (4 + 2 * q + 1) + c) * 8 + f) ≠ 0 ∧ tb (N (62 + 27 * e + 3 + 8 * 2 + f)) d = true))) := by
    intro c r c0 c1
    have := it_inv (f := mSumI K e b q c) (fun i s => tb s d = true ↔ (tb r d = true ∨ (tb x c = true ∧ ∃ f : Int, 0 ≤ f ∧ f < i ∧ m_place K ((8 * N (4 + 2 * q + 1) + c) * 8 + f) ≠ 0 ∧ tb (N (62 + 27 * e + 3 + 8 * 2 + f)) d = true))) (b := 8) 8 0 r (by omega) ⟨Or.inl, fun hh => hh.elim id (fun ⟨_, f, f0, f1, _⟩ => absurd f1 (by omega))⟩ (fun f s f0 f1 hs => by
      have hp := h.1.2.2.2.1.2 ((8 * N (4 + 2 * q + 1) + c) * 8 + f) (by omega) (by omega)
      have hbit := tb_b1 (x := x) (k := c) (by omega) c0
      unfold mSumI
      rw [hX, tb_Or, hs, ← hx]
      by_cases hc : bA (x / p2 c) 1 = 1 ∧ 0 < m_place K ((8 * N (4 + 2 * q + 1) + c) * 8 + f)
      · rw [if_pos hc]
        constructor
        · rintro ((hh | ⟨h1, f', g0, g1, g2, g3⟩) | hh)
          · exact Or.inl hh
          · exact Or.inr ⟨h1, f', g0, by omega, g2, g3⟩
          · exact Or.inr ⟨hbit.mp hc.1, f, f0, by omega, by have := hc.2; omega, hh⟩
        · rintro (hh | ⟨h1, f', g0, g1, g2, g3⟩)
          · exact Or.inl (Or.inl hh)
          · by_cases hf : f' = f
            · subst hf; exact Or.inr g3
            · exact Or.inl (Or.inr ⟨h1, f', g0, by omega, g2, g3⟩)
      · rw [if_neg hc, tb_0]
        constructor
        · rintro ((hh | ⟨h1, f', g0, g1, g2, g3⟩) | hh)
          · exact Or.inl hh
          · exact Or.inr ⟨h1, f', g0, by omega, g2, g3⟩
          · exact absurd hh (by decide)
        · rintro (hh | ⟨h1, f', g0, g1, g2, g3⟩)
          · exact Or.inl (Or.inl hh)
          · by_cases hf : f' = f
            · subst hf; exact absurd ⟨hbit.mpr h1, by omega⟩ hc
            · exact Or.inl (Or.inr ⟨h1, f', g0, by omega, g2, g3⟩))
    exact this
  have c2 : tb (mSumR K e b q) d = true ↔ ∃ c : Int, (0 ≤ c ∧ c < 8) ∧ tb x c = true ∧ ∃ f : Int, 0 ≤ f ∧ f < 8 ∧ m_place K ((8 * N (4 + 2 * q + 1) + c) * 8 + f) ≠ 0 ∧ tb (N (62 + 27 * e + 3 + 8 * 2 + f)) d = true := by
    unfold mSumR
    refine it_inv (fun i r => tb r d = true ↔ ∃ c : Int, (0 ≤ c ∧ c < i) ∧ tb x c = true ∧ ∃ f : Int, 0 ≤ f ∧ f < 8 ∧ m_place K ((8 * N (4 + 2 * q + 1) + c) * 8 + f) ≠ 0 ∧ tb (N (62 + 27 * e + 3 + 8 * 2 + f)) d = true) (b := 8) 8 0 0 (by omega) (by
      rw [tb_0]; exact ⟨fun hh => absurd hh (by decide), fun ⟨c, c0, _⟩ => absurd c0 (by omega)⟩) (fun c r c0 c1 hr => ?_)
    rw [inner c r c0 c1, hr]
    constructor
    · rintro (⟨c', h1, h2, h3⟩ | ⟨h2, h3⟩)
      · exact ⟨c', by omega, h2, h3⟩
      · exact ⟨c, by omega, h2, h3⟩
    · rintro ⟨c', h1, h2, h3⟩
      by_cases he' : c' = c
      · subst he'; exact Or.inr ⟨h2, h3⟩
      · exact Or.inl ⟨c', by omega, h2, h3⟩
  have c3 := c1.trans c2.symm
  generalize it (fun c r => if tb x c = true then bO r (pCarry P0 e 2 (t_seen T (N (4 + 2 * q + 1) * 8 + c))) else r) 8 0 0 = A at c3
  cases t1 : tb A d with
  | true => exact (c3.mp t1).symm
  | false =>
    cases t2 : tb (mSumR K e b q) d with
    | true => exact absurd ((c3.mpr t2).symm.trans t1) (by decide)
    | false => rfl
section QT
variable {k : Int} {M : Mf} {T : Tb} {U : Sp} {X : Tx} {P : Nat → Pg} {D : Md}
theorem s_summary {e b : Int} (h : gS k M T U X P D) (hk : 0 ≤ k ∧ k < 1000000) : (fSummary (P 0) e b M T).1 = (mSummary e b D).1 ∧ gS (k + 1) (fSummary (P 0) e b M T).2.1 (fSummary (P 0) e b M T).2.2 U X P (mSummary e b D).2 := by
  obtain ⟨_, ⟨p1, _⟩, ⟨o1, o2, o3, o4, o5, o6, o7⟩, g1, g2, g3⟩ := id h
  have e2 := p1.2.2.1
  have n2 := o6.2.2.1
  have n0 := o6.1
  unfold fSummary mSummary
  by_cases hc : (0 ≤ e ∧ e ≤ m_now D 2 - 1) ∧ (0 ≤ b ∧ b ≤ 7)
  · have pe := p1.2.2.2.2.2.2 e hc.1.1 (by omega)
    rw [if_pos hc, if_pos (show (0 ≤ e ∧ e < p_edges (P 0)) ∧ (0 ≤ b ∧ b < 8) by omega), pe.2.2.1]
    by_cases hq : m_now D (62 + 27 * e + 2) = -1
    · rw [if_pos hq, if_pos hq]
      exact ⟨rfl, gS_ref h hk (Or.inr (Or.inl ⟨rfl, rfl⟩))⟩
    · rw [if_neg hq, if_neg hq]
      have q2 := nEdge_q (m_now D) e 2 o6 (by omega) (by omega)
      have w4 := o7.2.2.2 e hc.1.1 (by omega)
      have wq := o7.2.1 (m_now D (62 + 27 * e + 2)) (by omega) w4.2.2.2
      have en := nEnd_q (m_now D) (4 + 2 * m_now D (62 + 27 * e + 2)) o6 (by omega)
      have fl := nFlow_q (m_now D) e 1 b o6 (by omega) (by omega) (by omega)
      have pr := pe.2.2.2 1 b (by omega) (by omega) (by omega) (by omega)
      have hq0 : 0 ≤ m_now D (62 + 27 * e + 2) ∧ m_now D (62 + 27 * e + 2) < m_now D 0 := ⟨by omega, w4.2.2.2⟩
      have pq := p1.2.2.2.2.1 (m_now D (62 + 27 * e + 2)) hq0.1 hq0.2
      have eT : fSumT (P 0) e b T = tFill (P 0) (m_now D (62 + 27 * e + 2)) (m_now D (62 + 27 * e + 3 + 8 * 1 + b)) T := by unfold fSumT; rw [pe.2.2.1, pr]
      have ft := gT_fill (q := m_now D (62 + 27 * e + 2)) (s := m_now D (62 + 27 * e + 3 + 8 * 1 + b)) (o4 0 (by omega)) o1 g1 o6 hq0 (by omega)
      rw [← eT] at ft
      have fr : fR (m_now D) (fSumT (P 0) e b T) (mSumK e b D) := by
        obtain ⟨T0, t1, t2⟩ := ft.2
        rw [t2]
        exact (fill_sim o6 o7 p1 hq0 (s := m_now D (62 + 27 * e + 3 + 8 * 1 + b)) (by omega) t1 o5 rfl).1
      have ss := sum_sim (b := b) (q := m_now D (62 + 27 * e + 2)) (x := m_now D (62 + 27 * e + 3 + 8 * 1 + b)) o6 o7 p1 fr ⟨hc.1.1, by omega⟩ (by omega) rfl hq rfl
      have kv := mFilled_v (n := m_now D (4 + 2 * m_now D (62 + 27 * e + 2))) (x := m_now D (62 + 27 * e + 3 + 8 * 1 + b)) o6 o7 o5 rfl ⟨en.1, wq.1⟩
      have kN : mN (mSumK e b D) = mN D := kv.2
      have kO : mOk (mSumK e b D) := kv.1.2.1
      refine ⟨?_, ?_⟩
      · show fSumF (P 0) e b T = mSumR (mSumK e b D) e b (m_now D (62 + 27 * e + 2))
        rw [← ss]
        unfold fSumF
        rw [pe.2.2.1, pq.2, pr]
      · show gS (k + 1) M (fSumT (P 0) e b T) U X P (ms_known (mSumK e b D) 0)
        generalize mSumK e b D = K at kN kO
        generalize fSumT (P 0) e b T = T' at ft
        refine gS_D h (by omega) ?_ (mOk_known kO) ft.1 o2 (gT_new o6 o7 p1 hq0 (by omega) ft.2 o5 rfl) g2 (fun hh => absurd rfl hh)
        exact congrArg (fun (q : (Int → Int) × (Int → Int) × (Int → Int) × Int × Int × (Int → Int) × (Int → Int) × Int × (Int → Int) × Int × (Int → Int) × Int × (Int → Int) × Int × Int) => (q.1, q.2.1, q.2.2.1, q.2.2.2.1, q.2.2.2.2.2.2.2.2.2.2.1, q.2.2.2.2.2.2.2.2.2.2.2.1)) kN
  · rw [if_neg hc, if_neg (show ¬ ((0 ≤ e ∧ e < p_edges (P 0)) ∧ (0 ≤ b ∧ b < 8)) by omega)]; exact ⟨rfl, gS_ref h hk (Or.inl ⟨rfl, rfl⟩)⟩
theorem s_digest (h : gS k M T U X P D) : dEdges (P 0) (dNodes (P 0) (tFill (P 0) 0 (p_start (P 0)) T) (uFill (P 0) U) (dTop (P 0) (tFill (P 0) 0 (p_start (P 0)) T) M X)) = mDigest D ∧ gS (k + 1) M (tFill (P 0) 0 (p_start (P 0)) T) (uFill (P 0) U) X P (mLo (mKn D)) := by
  obtain ⟨q1, q2, q3, q4⟩ := gS_q h
  obtain ⟨l1, l2⟩ := gS_l q1
  obtain ⟨_, ⟨p1, _⟩, ⟨o1, o2, o3, o4, o5, o6, o7⟩, g1, g2, g3⟩ := id h
  refine ⟨?_, gS_mono l1 (by omega)⟩
  have n1 := o6.2.1
  have n2 := o6.2.2.1
  have lN : m_now (mLo (mKn D)) = m_now D := q4
  have lP : m_place (mLo (mKn D)) = m_place (mKn D) := rfl
  generalize hT' : tFill (P 0) 0 (p_start (P 0)) T = T' at q1 q3 l1
  generalize hU' : uFill (P 0) U = U' at l1 l2
  generalize hK : mKn D = K at q1 q2 q3 q4 l1 l2 lN lP
  have top : dTop (P 0) T' M X = gCount K (gTold D 1807) := by
    unfold dTop gCount gTold
    have e5 : it (fun w h => 31 * h + fTally M X w) 5 0 1807 = it (fun k h => 31 * h + mTold D k) 5 0 1807 := it_rel (f := fun w h => 31 * h + fTally M X w) (g := fun k h => 31 * h + mTold D k) (fun _ s t => s = t) (b := 5) 5 0 1807 1807 (by omega) rfl (fun w s t w0 w1 hI => by
      show 31 * s + fTally M X w = 31 * t + mTold D w
      rw [hI, tally_sim h (by omega)])
    rw [e5]
    exact it_rel (f := fun w h => 31 * h + fCounted (P 0) T' w) (g := fun k h => 31 * h + mCountOf K k) (fun _ s t => s = t) (b := 6) 6 0 _ _ (by omega) rfl (fun w s t w0 w1 hI => by
      show 31 * s + fCounted (P 0) T' w = 31 * t + mCountOf K w
      rw [hI, counted_sim q3 o6 p1 (by omega) (fun _ => rfl)])
  have nodes : ∀ h0 : Int, dNodes (P 0) T' U' h0 = gNodes (mLo K) h0 := by
    intro h0
    unfold dNodes gNodes
    rw [lN, p1.2.1]
    refine it_rel (f := fun n h => 31 * (31 * (31 * (31 * h + p_procOf (P 0) n) + p_kindOf (P 0) n) + tFacts T' n) + u_reached U' n) (g := gNodeF (mLo K)) (fun _ s t => s = t) (b := m_now D 1) (m_now D 1).toNat 0 h0 h0 (by omega) rfl (fun n s t m0 m1 hI => ?_)
    have pn := p1.2.2.2.2.2.1 n m0 m1
    show 31 * (31 * (31 * (31 * s + p_procOf (P 0) n) + p_kindOf (P 0) n) + tFacts T' n) + u_reached U' n = gNodeF (mLo K) n t
    unfold gNodeF
    rw [hI, pn.1, pn.2, facts_sim q3 (by omega), l2 n m0 (by omega), lN, lP]
  have edges : ∀ h0 : Int, dEdges (P 0) h0 = gEdges (mLo K) h0 := by
    intro h0
    unfold dEdges gEdges
    rw [lN, p1.2.2.1]
    refine it_rel (f := dEdge (P 0)) (g := fun e h => gEdgeB (mLo K) e (gEdgeA (mLo K) e h)) (fun _ s t => s = t) (b := m_now D 2) (m_now D 2).toNat 0 h0 h0 (by omega) rfl (fun e s t m0 m1 hI => ?_)
    have pe := p1.2.2.2.2.2.2 e m0 m1
    subst hI
    show dEdge (P 0) e s = gEdgeB (mLo K) e (gEdgeA (mLo K) e s)
    unfold dEdge gEdgeB gEdgeA
    rw [lN, pe.2.2.1]
    have eA : it (fun w h => 31 * h + fEdge (P 0) e w) 3 0 s = it (fun k h => 31 * h + m_now D (62 + 27 * e + k)) 3 0 s := it_rel (f := fun w h => 31 * h + fEdge (P 0) e w) (g := fun k h => 31 * h + m_now D (62 + 27 * e + k)) (fun _ s t => s = t) (b := 3) 3 0 s s (by omega) rfl (fun w s t w0 w1 hI => by
      show 31 * s + fEdge (P 0) e w = 31 * t + m_now D (62 + 27 * e + w)
      rw [hI, edge_at p1 ⟨m0, m1⟩ (by omega)])
    rw [eA]
    have eN : ((if m_now D (62 + 27 * e + 2) = -1 then 1 else 3) * 8 : Int) = (if m_now D (62 + 27 * e + 2) = -1 then 8 else 24 : Int) := by split <;> rfl
    rw [eN]
    have hle : (if m_now D (62 + 27 * e + 2) = -1 then 8 else 24 : Int) = 8 ∨ (if m_now D (62 + 27 * e + 2) = -1 then 8 else 24 : Int) = 24 := by split <;> simp
    refine it_rel (f := fun i h => 31 * h + pReach (P 0) e (i / 8) (i % 8)) (g := fun k h => 31 * h + m_now D (62 + 27 * e + 3 + k)) (fun _ s t => s = t) (b := (if m_now D (62 + 27 * e + 2) = -1 then 8 else 24 : Int)) _ 0 _ _ (by omega) rfl (fun i s t i0 i1 hI => ?_)
    show 31 * s + pReach (P 0) e (i / 8) (i % 8) = 31 * t + m_now D (62 + 27 * e + 3 + i)
    rw [hI, pe.2.2.2 (i / 8) (i % 8) (by omega) (by omega) (by omega) (by omega)]
    congr 2; omega
  unfold mDigest
  rw [hK, top, nodes, edges]
end QT

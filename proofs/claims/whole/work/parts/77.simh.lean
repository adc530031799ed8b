/-! SIMULATION: LOOSE -/
def rL (N : Int → Int) (S : Int → Int → Prop) : Prop := (∀ f : Int, 0 ≤ f → f < 8 → tb (N 3) f = true → S (N 4) f) ∧ ∀ e : Int, 0 ≤ e → e < N 2 → ∀ a d : Int, 0 ≤ a → a < 8 → 0 ≤ d → d < 8 → (S (N (62 + 27 * e + 0)) a → tb (N (62 + 27 * e + 3 + 8 * 0 + a)) d = true → S (N (62 + 27 * e + 1)) d) ∧ (N (62 + 27 * e + 2) ≠ -1 → (S (N (62 + 27 * e + 0)) a → tb (N (62 + 27 * e + 3 + 8 * 1 + a)) d = true → S (N (4 + 2 * N (62 + 27 * e + 2))) d) ∧ (S (N (4 + 2 * N (62 + 27 * e + 2) + 1)) a → tb (N (62 + 27 * e + 3 + 8 * 2 + a)) d = true → S (N (62 + 27 * e + 1)) d))
def LoP (N : Int → Int) (n f : Int) : Prop := ∀ S : Int → Int → Prop, rL N S → S n f
theorem LoP_r (N : Int → Int) : rL N (LoP N) :=
  ⟨fun f f0 f1 hf S hS => hS.1 f f0 f1 hf, fun e e0 e1 a d a0 a1 d0 d1 => ⟨fun h ht S hS => (hS.2 e e0 e1 a d a0 a1 d0 d1).1 (h S hS) ht, fun hq => ⟨fun h ht S hS => ((hS.2 e e0 e1 a d a0 a1 d0 d1).2 hq).1 (h S hS) ht, fun h ht S hS => ((hS.2 e e0 e1 a d a0 a1 d0 d1).2 hq).2 (h S hS) ht⟩⟩⟩
def lSd (N : Int → Int) (L : Int → Int) : Prop := ∀ n f : Int, 0 ≤ n → n < 24 → 0 ≤ f → f < 8 → tb (L n) f = true → LoP N n f
theorem lSd_up {N L : Int → Int} {i v : Int} (h : lSd N L) (hv : ∀ f : Int, 0 ≤ f → f < 8 → tb v f = true → LoP N i f) : lSd N (up L i v) := by
  intro n f n0 n1 f0 f1 ht
  rw [up_a] at ht
  by_cases hn : n = i
  · rw [if_pos hn] at ht; rw [hn]; exact hv f f0 f1 ht
  · rw [if_neg hn] at ht; exact h n f n0 n1 f0 f1 ht
theorem nCarry_tb {N : Int → Int} {e w x d : Int} (hx : 0 ≤ x) : tb (nCarry N e w x) d = true ↔ ∃ a : Int, 0 ≤ a ∧ a < 8 ∧ tb x a = true ∧ tb (N (62 + 27 * e + 3 + 8 * w + a)) d = true := by
  unfold nCarry
  have := it_inv (f := fun a r => bO r (if bA (x / p2 a) 1 = 1 then N (62 + 27 * e + 3 + 8 * w + a) else 0)) (fun i r => tb r d = true ↔ ∃ a : Int, 0 ≤ a ∧ a < i ∧ tb x a = true ∧ tb (N (62 + 27 * e + 3 + 8 * w + a)) d = true) (b := 8) 8 0 0 (by omega) (by
    rw [tb_0]
    exact ⟨fun h => absurd h (by decide), fun ⟨a, a0, a1, _⟩ => absurd a1 (by omega)⟩) (fun a r a0 a1 hr => by
    have hb := tb_b1 (x := x) (k := a) hx a0
    show tb (bO r (if bA (x / p2 a) 1 = 1 then N (62 + 27 * e + 3 + 8 * w + a) else 0)) d = true ↔ _
    rw [tb_O, Bool.or_eq_true, hr]
    constructor
    · rintro (⟨c, c0, c1, c2, c3⟩ | hh)
      · exact ⟨c, c0, by omega, c2, c3⟩
      · by_cases hc : bA (x / p2 a) 1 = 1
        · rw [if_pos hc] at hh; exact ⟨a, a0, by omega, hb.mp hc, hh⟩
        · rw [if_neg hc, tb_0] at hh; exact absurd hh (by decide)
    · rintro ⟨c, c0, c1, c2, c3⟩
      by_cases hc : c = a
      · subst hc; right; rw [if_pos (hb.mpr c2)]; exact c3
      · left; exact ⟨c, c0, by omega, c2, c3⟩)
  exact this
theorem pCarry_eq {N : Int → Int} {P : Pg} {e w x : Int} (hP : pR P N) (he : 0 ≤ e ∧ e < N 2) (hw : 0 ≤ w ∧ w < 3) (hx : 0 ≤ x) : pCarry P e w x = nCarry N e w x := by
  unfold pCarry nCarry
  have pe := hP.2.2.2.2.2.2 e he.1 he.2
  have := it_rel (f := fun a r => if tb x a = true then bO r (pReach P e w a) else r) (g := fun a r => bO r (if bA (x / p2 a) 1 = 1 then N (62 + 27 * e + 3 + 8 * w + a) else 0)) (fun _ s t => s = t ∧ 0 ≤ s) (b := 8) 8 0 0 0 (by omega) ⟨rfl, by omega⟩ (fun a s t a0 a1 hI => by
    obtain ⟨rfl, h0⟩ := hI
    have hb := tb_b1 (x := x) (k := a) hx a0
    show (if tb x a = true then bO s (pReach P e w a) else s) = bO s (if bA (x / p2 a) 1 = 1 then N (62 + 27 * e + 3 + 8 * w + a) else 0) ∧ 0 ≤ (if tb x a = true then bO s (pReach P e w a) else s)
    by_cases hc : tb x a = true
    · rw [if_pos hc, if_pos (hb.mpr hc), pe.2.2.2 w a hw.1 hw.2 a0 a1]; exact ⟨rfl, bO_0 _ _⟩
    · rw [if_neg hc, if_neg (fun hh => hc (hb.mp hh)), bO_z0 h0]; exact ⟨rfl, h0⟩)
  exact this.1
/-- nothing more comes over EDGE e -/
def cAt (N L : Int → Int) (e : Int) : Prop := ∀ d : Int, 0 ≤ d → d < 8 → (tb (nCarry N e 0 (L (N (62 + 27 * e + 0)))) d = true → tb (L (N (62 + 27 * e + 1))) d = true) ∧ (N (62 + 27 * e + 2) ≠ -1 → (tb (nCarry N e 1 (L (N (62 + 27 * e + 0)))) d = true → tb (L (N (4 + 2 * N (62 + 27 * e + 2)))) d = true) ∧ (tb (nCarry N e 2 (L (N (4 + 2 * N (62 + 27 * e + 2) + 1)))) d = true → tb (L (N (62 + 27 * e + 1))) d = true))
def lGood (N L : Int → Int) : Prop := lOk L ∧ lSd N L ∧ (∀ f : Int, 0 ≤ f → f < 8 → tb (N 3) f = true → tb (L (N 4)) f = true) ∧ ∀ e : Int, 0 ≤ e → e < N 2 → cAt N L e
theorem lGood_iff {N L : Int → Int} (hN : nOk N) (h : lGood N L) {n f : Int} (hn : 0 ≤ n ∧ n < 24) (hf : 0 ≤ f ∧ f < 8) : tb (L n) f = true ↔ LoP N n f := by
  obtain ⟨h1, h2, h3, h4⟩ := h
  have n2 := hN.2.2.1
  refine ⟨h2 n f hn.1 hn.2 hf.1 hf.2, fun hp => ?_⟩
  refine hp (fun n f => tb (L n) f = true) ⟨h3, fun e e0 e1 a d a0 a1 d0 d1 => ?_⟩
  have c := h4 e e0 e1 d d0 d1
  have e0' := nEdge_q N e 0 hN (by omega) (by omega)
  have e2' := nEdge_q N e 2 hN (by omega) (by omega)
  have l0 := h1 (N (62 + 27 * e + 0)) (by omega) (by omega)
  refine ⟨fun ha ht => c.1 ((nCarry_tb l0.1).mpr ⟨a, a0, a1, ha, ht⟩), fun hq => ⟨fun ha ht => (c.2 hq).1 ((nCarry_tb l0.1).mpr ⟨a, a0, a1, ha, ht⟩), fun ha ht => (c.2 hq).2 ((nCarry_tb ?_).mpr ⟨a, a0, a1, ha, ht⟩)⟩⟩
  have ex := nEnd_q N (4 + 2 * N (62 + 27 * e + 2) + 1) hN (by omega)
  exact (h1 _ ex.1 (by omega)).1
theorem lGood_u {N L L' : Int → Int} (hN : nOk N) (h : lGood N L) (h' : lGood N L') {n : Int} (hn : 0 ≤ n ∧ n < 24) : L n = L' n := by
  have a := h.1 n hn.1 hn.2
  have b := h'.1 n hn.1 hn.2
  refine tb_ext a.1 (by omega) b.1 (by omega) (fun k k0 k1 => ?_)
  have i1 := lGood_iff hN h hn ⟨k0, k1⟩
  have i2 := lGood_iff hN h' hn ⟨k0, k1⟩
  cases t1 : tb (L n) k with
  | true => exact (i2.mpr (i1.mp t1)).symm
  | false =>
    cases t2 : tb (L' n) k with
    | true => exact absurd ((i1.mpr (i2.mp t2)).symm.trans t1) (by decide)
    | false => rfl
/-- carried FACTS are LOOSE -/
theorem carry_LP {N L : Int → Int} {e : Int} (hN : nOk N) (ho : lOk L) (hs : lSd N L) (he : 0 ≤ e ∧ e < N 2) (d : Int) (hd : 0 ≤ d ∧ d < 8) : (tb (nCarry N e 0 (L (N (62 + 27 * e + 0)))) d = true → LoP N (N (62 + 27 * e + 1)) d) ∧ (N (62 + 27 * e + 2) ≠ -1 → (tb (nCarry N e 1 (L (N (62 + 27 * e + 0)))) d = true → LoP N (N (4 + 2 * N (62 + 27 * e + 2))) d) ∧ (tb (nCarry N e 2 (L (N (4 + 2 * N (62 + 27 * e + 2) + 1)))) d = true → LoP N (N (62 + 27 * e + 1)) d)) := by
  have n2 := hN.2.2.1
  have e0' := nEdge_q N e 0 hN (by omega) (by omega)
  have e2' := nEdge_q N e 2 hN (by omega) (by omega)
  have l0 := ho (N (62 + 27 * e + 0)) (by omega) (by omega)
  refine ⟨fun h => ?_, fun hq => ⟨fun h => ?_, fun h => ?_⟩⟩
  · obtain ⟨a, a0, a1, ha, ht⟩ := (nCarry_tb l0.1).mp h
    exact ((LoP_r N).2 e he.1 he.2 a d a0 a1 hd.1 hd.2).1 (hs _ a (by omega) (by omega) a0 a1 ha) ht
  · obtain ⟨a, a0, a1, ha, ht⟩ := (nCarry_tb l0.1).mp h
    exact (((LoP_r N).2 e he.1 he.2 a d a0 a1 hd.1 hd.2).2 hq).1 (hs _ a (by omega) (by omega) a0 a1 ha) ht
  · have ex := nEnd_q N (4 + 2 * N (62 + 27 * e + 2) + 1) hN (by omega)
    have lx := ho _ ex.1 (by omega)
    obtain ⟨a, a0, a1, ha, ht⟩ := (nCarry_tb lx.1).mp h
    exact (((LoP_r N).2 e he.1 he.2 a d a0 a1 hd.1 hd.2).2 hq).2 (hs _ a ex.1 (by omega) a0 a1 ha) ht
theorem tb_Or {a b k : Int} : tb (bO a b) k = true ↔ (tb a k = true ∨ tb b k = true) := by rw [tb_O, Bool.or_eq_true]
/-! the reference -/
theorem lStep_sd {N : Int → Int} {e : Int} {s : Int × (Int → Int)} (hN : nOk N) (ho : lOk s.2) (hs : lSd N s.2) (he : 0 ≤ e ∧ e < N 2) : lSd N (lStep N e s).2 := by
  have n2 := hN.2.2.1
  have c := carry_LP hN ho hs he
  have e1' := nEdge_q N e 1 hN (by omega) (by omega)
  have e2' := nEdge_q N e 2 hN (by omega) (by omega)
  have t1 : ∀ f : Int, 0 ≤ f → f < 8 → tb (lT1 N e s.2) f = true → LoP N (N (62 + 27 * e + 1)) f := fun f f0 f1 h => by
    rcases tb_Or.mp h with h | h
    · exact hs _ f (by omega) (by omega) f0 f1 h
    · exact (c f ⟨f0, f1⟩).1 h
  unfold lStep
  by_cases hq : N (62 + 27 * e + 2) = -1
  · rw [if_pos hq]; exact lSd_up hs t1
  · rw [if_neg hq]
    have en := nEnd_q N (4 + 2 * N (62 + 27 * e + 2)) hN (by omega)
    refine lSd_up (lSd_up hs (fun f f0 f1 h => ?_)) (fun f f0 f1 h => ?_)
    · rcases tb_Or.mp h with h | h
      · exact hs _ f (by omega) (by omega) f0 f1 h
      · exact ((c f ⟨f0, f1⟩).2 hq).1 h
    · rcases tb_Or.mp h with h | h
      · exact t1 f f0 f1 h
      · exact ((c f ⟨f0, f1⟩).2 hq).2 h
theorem lRound_sd {N L : Int → Int} (hN : nOk N) (hw : nWf N) (ho : lOk L) (hs : lSd N L) : lSd N (lRound N L).2 := by
  have n2 := hN.2.2.1
  exact (it_inv (f := lStep N) (fun _ s => lI9 L s ∧ lSd N s.2) (b := N 2) (N 2).toNat 0 (0, L) (by omega) ⟨⟨ho, lSub_rf L, Or.inl rfl, fun h => absurd rfl h, fun _ => rfl⟩, hs⟩ (fun e s e0 e1 hI => ⟨lI9_step hN hw ⟨e0, e1⟩ ho hI.1, lStep_sd hN hI.1.1 hI.2 ⟨e0, e1⟩⟩)).2
theorem lRound_cl {N L : Int → Int} (hN : nOk N) (hw : nWf N) (ho : lOk L) (n : Nat) : ∀ i : Int, 0 ≤ i → i + n = N 2 → (it (lStep N) n i (0, L)).1 = 0 → ∀ e : Int, i ≤ e → e < N 2 → cAt N L e := by
  have n2 := hN.2.2.1
  induction n with
  | zero => intro i _ h1 _ e e0 e1; omega
  | succ n ih =>
    intro i i0 h1 hz e e0 e1
    have hst := lStep_ok (e := i) (s := (0, L)) hN ho (by omega) (nWf_fm hN hw ⟨i0, by omega⟩)
    have h0 : (lStep N i (0, L)).1 = 0 := by
      refine Classical.byContradiction (fun hne => ?_)
      have : (it (lStep N) n (i + 1) (lStep N i (0, L))).1 ≠ 0 := (it_inv (f := lStep N) (fun _ s => lOk s.2 ∧ s.1 ≠ 0) (b := N 2) n (i + 1) _ (by omega) ⟨hst.1, hne⟩ (fun j s j0 j1 hs => by
        have g := lStep_ok (e := j) (s := s) hN hs.1 (by omega) (nWf_fm hN hw ⟨by omega, j1⟩)
        exact ⟨g.1, g.2.2.2.1 hs.2⟩)).2
      exact this hz
    have hL : lStep N i (0, L) = (0, L) := Prod.ext h0 (hst.2.2.2.2.2 h0)
    by_cases he : e = i
    · subst he
      intro d d0 d1
      unfold lStep at h0
      by_cases hq : N (62 + 27 * e + 2) = -1
      · rw [if_pos hq] at h0
        have hc := ite10 (c := ((0 : Int), L).1 ≠ 0 ∨ lT1 N e L ≠ L (N (62 + 27 * e + 1)))
        have t1 : lT1 N e L = L (N (62 + 27 * e + 1)) := Classical.byContradiction (fun hh => hc.2.mpr (Or.inr hh) h0)
        refine ⟨fun h => ?_, fun hh => absurd hq hh⟩
        rw [← t1]; exact tb_Or.mpr (Or.inr h)
      · rw [if_neg hq] at h0
        have hc := ite10 (c := (((0 : Int), L).1 ≠ 0 ∨ lTh N e L ≠ L (N (4 + 2 * N (62 + 27 * e + 2)))) ∨ lT2 N e L ≠ lU N e L (N (62 + 27 * e + 1)))
        have t1 : lTh N e L = L (N (4 + 2 * N (62 + 27 * e + 2))) := Classical.byContradiction (fun hh => hc.2.mpr (Or.inl (Or.inr hh)) h0)
        have t2 : lT2 N e L = lU N e L (N (62 + 27 * e + 1)) := Classical.byContradiction (fun hh => hc.2.mpr (Or.inr hh) h0)
        have t3 : lU N e L = L := up_id t1
        rw [t3] at t2
        refine ⟨fun h => ?_, fun _ => ⟨fun h => ?_, fun h => ?_⟩⟩
        · rw [← t2]; exact tb_Or.mpr (Or.inl (tb_Or.mpr (Or.inr h)))
        · rw [← t1]; exact tb_Or.mpr (Or.inr h)
        · rw [← t2]; exact tb_Or.mpr (Or.inr h)
    · rw [it_s, hL] at hz
      exact ih (i + 1) (by omega) (by omega) hz e (by omega) e1
theorem lIter_good {N : Int → Int} (hN : nOk N) (hw : nWf N) (k : Nat) : ∀ L : Int → Int, lOk L → lSd N L → (∀ f : Int, 0 ≤ f → f < 8 → tb (N 3) f = true → tb (L (N 4)) f = true) → 193 ≤ wtF L 24 + k → lGood N (lIter N k L) := by
  have n2 := hN.2.2.1
  have n4 := nEnd_q N 4 hN (by omega)
  induction k with
  | zero => intro L _ _ _ h; have := wtF_r L 24; omega
  | succ k ih =>
    intro L ho hs h3 hwt
    have r := lRound_ok hN hw ho
    have rs := lRound_sd hN hw ho hs
    unfold lIter
    by_cases hz : (lRound N L).1 = 0
    · rw [if_pos hz, r.2.2.2.2 hz]
      exact ⟨ho, hs, h3, fun e e0 e1 => lRound_cl hN hw ho (N 2).toNat 0 (by omega) (by omega) hz e e0 e1⟩
    · rw [if_neg hz]
      have w := lRound_wt hN hw ho hz
      exact ih _ r.1 rs (fun f f0 f1 hf => r.2.1 (N 4) n4.1 (by omega) f f0 f1 (h3 f f0 f1 hf)) (by omega)
theorem lSt_sd {N L : Int → Int} : lSd N (lSt N L) := by
  refine lSd_up (fun n f n0 n1 f0 f1 h => ?_) (fun f f0 f1 h => (LoP_r N).1 f f0 f1 h)
  have : cLo L n = 0 := by unfold cLo; rw [it_put, if_pos (by omega)]
  rw [this, tb_0] at h; exact absurd h (by decide)
theorem ref_good {N L : Int → Int} (hN : nOk N) (hw : nWf N) (ho : lOk L) : lGood N (lIter N 193 (lSt N L)) :=
  lIter_good hN hw 193 _ (lSt_ok hN ho) lSt_sd (fun f _ _ h => by unfold lSt; rw [up_s]; exact h) (by have := wtF_r (lSt N L) 24; omega)
/-! the class -/
def aI (L0 : Int → Int) (g : Int) (L : Int → Int) : Prop := lOk L ∧ (g = 0 ∨ g = 1) ∧ (g ≠ 0 → wtF L0 24 < wtF L 24) ∧ (g = 0 → L = L0) ∧ lSub L0 L
theorem aI_tr {L0 L L' : Int → Int} {g g' : Int} (h : aI L0 g L) (h' : aI L g' L') : aI L0 (bO g g') L' := by
  obtain ⟨a1, a2, a3, a4, a5⟩ := h
  obtain ⟨b1, b2, b3, b4, b5⟩ := h'
  have w1 := wtF_le a5 24 (Nat.le_refl _)
  have w2 := wtF_le b5 24 (Nat.le_refl _)
  have z := bO_z a2 b2
  refine ⟨b1, bO_01 a2 b2, fun hne => ?_, fun hz => ?_, lSub_tr a5 b5⟩
  · by_cases hg : g = 0
    · have hg' : g' ≠ 0 := fun hh => hne (z.mpr ⟨hg, hh⟩)
      have := b3 hg'; omega
    · have := a3 hg; omega
  · have := z.mp hz
    rw [b4 this.2, a4 this.1]
theorem aI_add {L : Int → Int} {n x : Int} (ho : lOk L) (hn : 0 ≤ n ∧ n < 24) (hx : 0 ≤ x ∧ x < 256) : aI L (bI (bO (L n) x ≠ L n)) (up L n (bO (L n) x)) := by
  have l := ho n hn.1 hn.2
  have hu : lOk (up L n (bO (L n) x)) := lOk_up ho ⟨bO_0 _ _, bO_8 (by omega) hx.2⟩
  have hsub : lSub L (up L n (bO (L n) x)) := lSub_up (fun k _ _ hk => tb_Ol hk)
  refine ⟨hu, bI_r _, fun hne => ?_, fun hz => ?_, hsub⟩
  · have hd : bO (L n) x ≠ L n := Classical.byContradiction (fun hh => hne (bI_f hh))
    exact wtF_lt hsub ho hu 24 (Nat.le_refl _) ⟨n, hn.1, by omega, by rw [up_s]; exact fun hh => hd hh.symm⟩
  · refine up_id (Classical.byContradiction (fun hh => ?_))
    rw [bI_t hh] at hz; omega
theorem bI_ne0 {z : Int} (h : z = 0 ∨ z = 1) : bI (z ≠ 0) = z := (bI_ne h).symm
theorem uStep_I {N : Int → Int} {P : Pg} {U : Sp} {e : Int} (hN : nOk N) (hP : pR P N) (ho : lOk (u_reached U)) (hw : nWf N) (he : 0 ≤ e ∧ e < N 2) : aI (u_reached U) (uStep P e U).1 (u_reached (uStep P e U).2) ∧ (lSd N (u_reached U) → lSd N (u_reached (uStep P e U).2)) ∧ ((uStep P e U).1 = 0 → cAt N (u_reached U) e) := by
  have n2 := hN.2.2.1
  have pe := hP.2.2.2.2.2.2 e he.1 he.2
  have e0' := nEdge_q N e 0 hN (by omega) (by omega)
  have e1' := nEdge_q N e 1 hN (by omega) (by omega)
  have e2' := nEdge_q N e 2 hN (by omega) (by omega)
  have w4 := hw.2.2.2 e he.1 he.2
  have q0 := nCarry_q N e 0 (u_reached U (N (62 + 27 * e + 0))) hN (by omega) (by omega)
  have l0 := ho (N (62 + 27 * e + 0)) (by omega) (by omega)
  have c0 : pCarry P e 0 (u_reached U (p_from P e)) = nCarry N e 0 (u_reached U (N (62 + 27 * e + 0))) := by rw [pe.1]; exact pCarry_eq hP he (by omega) l0.1
  have a1 := aI_add (n := N (62 + 27 * e + 1)) ho (by omega) q0
  have s1 : u_reached (uS1 P e U) = up (u_reached U) (N (62 + 27 * e + 1)) (bO (u_reached U (N (62 + 27 * e + 1))) (nCarry N e 0 (u_reached U (N (62 + 27 * e + 0))))) := by
    show up (u_reached U) (p_to P e) (bO (u_reached U (p_to P e)) (pCarry P e 0 (u_reached U (p_from P e)))) = _
    rw [c0, pe.2.1]
  have g1 : uG1 P e U = bI (bO (u_reached U (N (62 + 27 * e + 1))) (nCarry N e 0 (u_reached U (N (62 + 27 * e + 0)))) ≠ u_reached U (N (62 + 27 * e + 1))) := by
    show bI (bO (u_reached U (p_to P e)) (pCarry P e 0 (u_reached U (p_from P e))) ≠ u_reached U (p_to P e)) = _
    rw [c0, pe.2.1]
  rw [← s1, ← g1] at a1
  have sd1 : lSd N (u_reached U) → lSd N (u_reached (uS1 P e U)) := fun hs => by
    rw [s1]
    refine lSd_up hs (fun f f0 f1 h => ?_)
    rcases tb_Or.mp h with h | h
    · exact hs _ f (by omega) (by omega) f0 f1 h
    · exact (carry_LP hN ho hs he f ⟨f0, f1⟩).1 h
  have z1 : uG1 P e U = 0 → ∀ d : Int, tb (nCarry N e 0 (u_reached U (N (62 + 27 * e + 0)))) d = true → tb (u_reached U (N (62 + 27 * e + 1))) d = true := fun hz d h => by
    have : u_reached (uS1 P e U) (N (62 + 27 * e + 1)) = u_reached U (N (62 + 27 * e + 1)) := by rw [a1.2.2.2.1 hz]
    rw [s1, up_s] at this
    rw [← this]; exact tb_Or.mpr (Or.inr h)
  unfold uStep
  rw [pe.2.2.1]
  by_cases hq : N (62 + 27 * e + 2) = -1
  · rw [if_pos hq]
    exact ⟨a1, sd1, fun hz d d0 d1 => ⟨z1 hz d, fun hh => absurd hq hh⟩⟩
  · rw [if_neg hq]
    have pq := hP.2.2.2.2.1 (N (62 + 27 * e + 2)) (by omega) w4.2.2.2
    have en := nEnd_q N (4 + 2 * N (62 + 27 * e + 2)) hN (by omega)
    have ex := nEnd_q N (4 + 2 * N (62 + 27 * e + 2) + 1) hN (by omega)
    have o1 := a1.1
    have l1 := o1 (N (62 + 27 * e + 0)) (by omega) (by omega)
    have q1 := nCarry_q N e 1 (u_reached (uS1 P e U) (N (62 + 27 * e + 0))) hN (by omega) (by omega)
    have c1 : pCarry P e 1 (u_reached (uS1 P e U) (p_from P e)) = nCarry N e 1 (u_reached (uS1 P e U) (N (62 + 27 * e + 0))) := by rw [pe.1]; exact pCarry_eq hP he (by omega) l1.1
    have a2 := aI_add (n := N (4 + 2 * N (62 + 27 * e + 2))) o1 (by omega) q1
    have s2 : u_reached (uS2 P e U) = up (u_reached (uS1 P e U)) (N (4 + 2 * N (62 + 27 * e + 2))) (bO (u_reached (uS1 P e U) (N (4 + 2 * N (62 + 27 * e + 2)))) (nCarry N e 1 (u_reached (uS1 P e U) (N (62 + 27 * e + 0))))) := by
      show up (u_reached (uS1 P e U)) (p_entryOf P (p_callee P e)) (bO (u_reached (uS1 P e U) (p_entryOf P (p_callee P e))) (pCarry P e 1 (u_reached (uS1 P e U) (p_from P e)))) = _
      rw [c1, pe.2.2.1, pq.1]
    have g2 : uG2 P e U = bI (bO (u_reached (uS1 P e U) (N (4 + 2 * N (62 + 27 * e + 2)))) (nCarry N e 1 (u_reached (uS1 P e U) (N (62 + 27 * e + 0)))) ≠ u_reached (uS1 P e U) (N (4 + 2 * N (62 + 27 * e + 2)))) := by
      show bI (bO (u_reached (uS1 P e U) (p_entryOf P (p_callee P e))) (pCarry P e 1 (u_reached (uS1 P e U) (p_from P e))) ≠ u_reached (uS1 P e U) (p_entryOf P (p_callee P e))) = _
      rw [c1, pe.2.2.1, pq.1]
    rw [← s2, ← g2] at a2
    have o2 := a2.1
    have lx := o2 (N (4 + 2 * N (62 + 27 * e + 2) + 1)) (by omega) (by omega)
    have q2 := nCarry_q N e 2 (u_reached (uS2 P e U) (N (4 + 2 * N (62 + 27 * e + 2) + 1))) hN (by omega) (by omega)
    have c2 : pCarry P e 2 (u_reached (uS2 P e U) (p_exitOf P (p_callee P e))) = nCarry N e 2 (u_reached (uS2 P e U) (N (4 + 2 * N (62 + 27 * e + 2) + 1))) := by rw [pe.2.2.1, pq.2]; exact pCarry_eq hP he (by omega) lx.1
    have a3 := aI_add (n := N (62 + 27 * e + 1)) o2 (by omega) q2
    have s3 : u_reached (uS3 P e U) = up (u_reached (uS2 P e U)) (N (62 + 27 * e + 1)) (bO (u_reached (uS2 P e U) (N (62 + 27 * e + 1))) (nCarry N e 2 (u_reached (uS2 P e U) (N (4 + 2 * N (62 + 27 * e + 2) + 1))))) := by
      show up (u_reached (uS2 P e U)) (p_to P e) (bO (u_reached (uS2 P e U) (p_to P e)) (pCarry P e 2 (u_reached (uS2 P e U) (p_exitOf P (p_callee P e))))) = _
      rw [c2, pe.2.1]
    have g3 : uG3 P e U = bI (bO (u_reached (uS2 P e U) (N (62 + 27 * e + 1))) (nCarry N e 2 (u_reached (uS2 P e U) (N (4 + 2 * N (62 + 27 * e + 2) + 1)))) ≠ u_reached (uS2 P e U) (N (62 + 27 * e + 1))) := by
      show bI (bO (u_reached (uS2 P e U) (p_to P e)) (pCarry P e 2 (u_reached (uS2 P e U) (p_exitOf P (p_callee P e)))) ≠ u_reached (uS2 P e U) (p_to P e)) = _
      rw [c2, pe.2.1]
    rw [← s3, ← g3] at a3
    refine ⟨aI_tr (aI_tr a1 a2) a3, fun hs => ?_, fun hz d d0 d1 => ?_⟩
    · have h1 := sd1 hs
      have h2 : lSd N (u_reached (uS2 P e U)) := by
        rw [s2]
        refine lSd_up h1 (fun f f0 f1 h => ?_)
        rcases tb_Or.mp h with h | h
        · exact h1 _ f (by omega) (by omega) f0 f1 h
        · exact ((carry_LP hN o1 h1 he f ⟨f0, f1⟩).2 hq).1 h
      show lSd N (u_reached (uS3 P e U))
      rw [s3]
      refine lSd_up h2 (fun f f0 f1 h => ?_)
      rcases tb_Or.mp h with h | h
      · exact h2 _ f (by omega) (by omega) f0 f1 h
      · exact ((carry_LP hN o2 h2 he f ⟨f0, f1⟩).2 hq).2 h
    · have z3 := (bO_z (bO_01 a1.2.1 a2.2.1) a3.2.1).mp hz
      have z12 := (bO_z a1.2.1 a2.2.1).mp z3.1
      have r1 := a1.2.2.2.1 z12.1
      have r2 := a2.2.2.2.1 z12.2
      have r3 := a3.2.2.2.1 z3.2
      refine ⟨z1 z12.1 d, fun _ => ⟨fun h => ?_, fun h => ?_⟩⟩
      · have : u_reached (uS2 P e U) (N (4 + 2 * N (62 + 27 * e + 2))) = u_reached (uS1 P e U) (N (4 + 2 * N (62 + 27 * e + 2))) := by rw [r2]
        rw [s2, up_s, r1] at this
        rw [← this]; exact tb_Or.mpr (Or.inr h)
      · have : u_reached (uS3 P e U) (N (62 + 27 * e + 1)) = u_reached (uS2 P e U) (N (62 + 27 * e + 1)) := by rw [r3]
        rw [s3, up_s, r2, r1] at this
        rw [← this]; exact tb_Or.mpr (Or.inr h)
theorem uRound_I {N : Int → Int} {P : Pg} (hN : nOk N) (hP : pR P N) (hw : nWf N) (n : Nat) : ∀ (i : Int) (s : Int × Sp), 0 ≤ i → i + n = N 2 → lOk (u_reached s.2) → (s.1 = 0 ∨ s.1 = 1) → ∃ g : Int, (it (uSF P) n i s).1 = bO s.1 g ∧ aI (u_reached s.2) g (u_reached (it (uSF P) n i s).2) ∧ (lSd N (u_reached s.2) → lSd N (u_reached (it (uSF P) n i s).2)) ∧ (g = 0 → ∀ e : Int, i ≤ e → e < N 2 → cAt N (u_reached s.2) e) := by
  induction n with
  | zero =>
    intro i s i0 h ho h01
    exact ⟨0, (bO_z0 (show 0 ≤ s.1 by omega)).symm, ⟨ho, Or.inl rfl, fun hh => absurd rfl hh, fun _ => rfl, lSub_rf _⟩, id, fun _ e e0 e1 => absurd e0 (by omega)⟩
  | succ n ih =>
    intro i s i0 h ho h01
    have st := uStep_I (U := s.2) hN hP ho hw ⟨i0, by omega⟩
    have s01 := uStep_01 P i s.2
    have hb : (uSF P i s).1 = bO s.1 (uStep P i s.2).1 := by
      show bO s.1 (bI ((uStep P i s.2).1 ≠ 0)) = _
      rw [bI_ne0 s01]
    obtain ⟨g, e1, e2, e3, e4⟩ := ih (i + 1) (uSF P i s) (by omega) (by omega) st.1.1 (by rw [hb]; exact bO_01 h01 s01)
    refine ⟨bO (uStep P i s.2).1 g, ?_, aI_tr st.1 e2, fun hs => e3 (st.2.1 hs), fun hz e e0 e1' => ?_⟩
    · rw [it_s, e1, hb]
      rcases h01 with h1 | h1 <;> rcases s01 with h2 | h2 <;> rcases e2.2.1 with h3 | h3 <;> rw [h1, h2, h3] <;> decide
    · have z := (bO_z s01 e2.2.1).mp hz
      by_cases he : e = i
      · rw [he]; exact st.2.2 z.1
      · have r1 : u_reached (uSF P i s).2 = u_reached s.2 := st.1.2.2.2.1 z.1
        have := e4 z.2 e (by omega) e1'
        rw [r1] at this; exact this
theorem uIter_good {N : Int → Int} {P : Pg} (hN : nOk N) (hP : pR P N) (hw : nWf N) (k : Nat) : ∀ (g : Int) (U : Sp), lOk (u_reached U) → lSd N (u_reached U) → (∀ f : Int, 0 ≤ f → f < 8 → tb (N 3) f = true → tb (u_reached U (N 4)) f = true) → 193 ≤ wtF (u_reached U) 24 + k → (g = 0 → ∀ e : Int, 0 ≤ e → e < N 2 → cAt N (u_reached U) e) → lGood N (u_reached (uIter P k g U)) := by
  have n2 := hN.2.2.1
  have n4 := nEnd_q N 4 hN (by omega)
  induction k with
  | zero => intro g U _ _ _ h; have := wtF_r (u_reached U) 24; omega
  | succ k ih =>
    intro g U ho hs h3 hwt hg
    unfold uIter
    by_cases hz : g = 0
    · rw [if_pos hz]; exact ⟨ho, hs, h3, hg hz⟩
    · rw [if_neg hz, hP.2.2.1]
      obtain ⟨g', e1, e2, e3, e4⟩ := uRound_I hN hP hw (N 2).toNat 0 (0, U) (by omega) (by omega) ho (Or.inl rfl)
      have e1' : (it (uSF P) (N 2).toNat 0 (0, U)).1 = g' := by
        rw [e1]
        show bO 0 g' = g'
        rcases e2.2.1 with h | h <;> rw [h] <;> decide
      by_cases hz' : g' = 0
      · have hr : u_reached (it (uSF P) (N 2).toNat 0 (0, U)).2 = u_reached U := e2.2.2.2.1 hz'
        have hgood : lGood N (u_reached (it (uSF P) (N 2).toNat 0 (0, U)).2) := by
          rw [hr]; exact ⟨ho, hs, h3, e4 hz'⟩
        rw [e1', hz']
        cases k with
        | zero => exact hgood
        | succ k => rw [show uIter P (k + 1) 0 (it (uSF P) (N 2).toNat 0 (0, U)).2 = (it (uSF P) (N 2).toNat 0 (0, U)).2 from if_pos rfl]; exact hgood
      · have w := e2.2.2.1 hz'
        refine ih _ _ e2.1 (e3 hs) (fun f f0 f1 hf => e2.2.2.2.2 (N 4) n4.1 (by omega) f f0 f1 (h3 f f0 f1 hf)) (by have : wtF (u_reached U) 24 < wtF (u_reached (it (uSF P) (N 2).toNat 0 (0, U)).2) 24 := w; omega) (fun hh => absurd (e1'.symm.trans hh) hz')
theorem uClr_at (U : Sp) : u_ready (uClr U) = 1 ∧ ∀ j : Int, 0 ≤ j → j < 24 → u_reached (uClr U) j = 0 := by
  unfold uClr
  exact it_inv (f := fun i (U : Sp) => us_reached U (up (u_reached U) i 0)) (fun i Y => u_ready Y = 1 ∧ ∀ j : Int, 0 ≤ j → j < i → u_reached Y j = 0) (b := 24) 24 0 (us_ready U 1) (by omega) ⟨rfl, fun j j0 j1 => absurd j1 (by omega)⟩ (fun i Y i0 i1 hY => ⟨hY.1, fun j j0 j1 => by
    show up (u_reached Y) i 0 j = 0
    rw [up_a]
    split
    · rfl
    · exact hY.2 j j0 (by omega)⟩)
def uFresh (P : Pg) (U : Sp) : Sp := uIter P 193 1 (us_reached (uClr U) (up (u_reached (uClr U)) (p_entryOf P 0) (p_start P)))
theorem uIter_rd (P : Pg) (k : Nat) : ∀ (g : Int) (U : Sp), u_ready (uIter P k g U) = u_ready U := by
  have st : ∀ (e : Int) (s : Int × Sp), u_ready (uSF P e s).2 = u_ready s.2 := by
    intro e s
    show u_ready (uStep P e s.2).2 = _
    unfold uStep
    split <;> rfl
  have rd : ∀ (n : Nat) (i : Int) (s : Int × Sp), u_ready (it (uSF P) n i s).2 = u_ready s.2 := by
    intro n
    induction n with
    | zero => intro i s; rfl
    | succ n ih => intro i s; rw [it_s, ih, st]
  induction k with
  | zero => intro g U; rfl
  | succ k ih =>
    intro g U
    unfold uIter
    split
    · rfl
    · rw [ih, rd]
theorem loose_sim {N : Int → Int} {P : Pg} {U : Sp} (hN : nOk N) (hP : pR P N) (hw : nWf N) : lGood N (u_reached (uFresh P U)) ∧ u_ready (uFresh P U) = 1 := by
  have n3 := hN.2.2.2.1
  have n4 := nEnd_q N 4 hN (by omega)
  have c := uClr_at U
  have p0 := (hP.2.2.2.2.1 0 (by omega) (by have := hw.1; omega)).1
  have e4 : p_entryOf P 0 = N 4 := p0
  unfold uFresh
  rw [e4, hP.2.2.2.1]
  refine ⟨uIter_good hN hP hw 193 1 _ ?_ ?_ (fun f _ _ hf => ?_) ?_ (fun hh => absurd hh (by decide)), (uIter_rd P 193 1 _).trans c.1⟩
  · exact lOk_up (fun j j0 j1 => by rw [c.2 j j0 j1]; omega) (by omega)
  · refine lSd_up (fun n f m0 m1 f0 f1 h => ?_) (fun f f0 f1 h => (LoP_r N).1 f f0 f1 h)
    rw [c.2 n m0 m1, tb_0] at h; exact absurd h (by decide)
  · show tb (up (u_reached (uClr U)) (N 4) (N 3) (N 4)) f = true
    rw [up_s]; exact hf
  · have := wtF_r (u_reached (us_reached (uClr U) (up (u_reached (uClr U)) (N 4) (N 3)))) 24; omega

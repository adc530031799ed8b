/-! MatchedFlows itself: what its methods do, as functions; and that a program's ranges stay -/
def pCopy (P2 P : Pg) : Pg := ps_flow (ps_callee (ps_to (ps_from (ps_kindOf (ps_procOf (ps_exitOf (ps_entryOf (ps_start (ps_edges (ps_nodes (ps_procs P (p_procs P2)) (p_nodes P2)) (p_edges P2)) (p_start P2)) (cpI (p_entryOf P2) (p_entryOf P) (p_procs P2))) (cpI (p_exitOf P2) (p_exitOf P) (p_procs P2))) (cpI (p_procOf P2) (p_procOf P) (p_nodes P2))) (cpI (p_kindOf P2) (p_kindOf P) (p_nodes P2))) (cpI (p_from P2) (p_from P) (p_edges P2))) (cpI (p_to P2) (p_to P) (p_edges P2))) (cpI (p_callee P2) (p_callee P) (p_edges P2))) (cpI (p_flow P2) (p_flow P) (p_edges P2 * 3))
theorem cpI_rng {f h : Int → Int} {n m : Int} {lo hi : Int} (hf : ∀ j : Int, 0 ≤ j → j < n → lo ≤ f j ∧ f j ≤ hi) (hh : ∀ j : Int, 0 ≤ j → j < n → lo ≤ h j ∧ h j ≤ hi) : ∀ j : Int, 0 ≤ j → j < n → lo ≤ cpI f h m j ∧ cpI f h m j ≤ hi := by
  intro j h1 h2
  unfold cpI
  split
  · exact hf j h1 h2
  · exact hh j h1 h2
theorem pCopy_ok {P2 P : Pg} (h2 : pOk P2) (h : pOk P) : pOk (pCopy P2 P) := by
  obtain ⟨a1, a2, a3, a4, a5, a6, a7, a8, a9, a10, a11⟩ := h2
  obtain ⟨b1, b2, b3, b4, b5, b6, b7, b8, b9, b10, b11⟩ := h
  exact ⟨a1, a2, a3, a4, cpI_rng a5 b5, cpI_rng a6 b6, cpI_rng a7 b7, cpI_rng a8 b8, cpI_rng a9 b9, cpI_rng a10 b10, cpI_rng a11 b11⟩
theorem pAddProc_ok {P : Pg} (h : pOk P) : pOk (pAddProc P).2 := by
  unfold pAddProc
  split
  · exact h
  · obtain ⟨b1, b2, b3, b4, b5, b6, b7, b8, b9, b10, b11⟩ := h
    exact ⟨⟨by show 0 ≤ p_procs P + 1; omega, by show p_procs P + 1 ≤ 5; omega⟩, ⟨by show 0 ≤ p_nodes P + 1 + 1; omega, by show p_nodes P + 1 + 1 ≤ 24; omega⟩, b3, b4, up_rng b5 _ (by omega), up_rng b6 _ (by omega), up_rng (up_rng b7 _ (by omega)) _ (by omega), up_rng (up_rng b8 _ (by omega)) _ (by omega), b9, b10, b11⟩
theorem pAddNode_ok {P : Pg} {n : Int} (h : pOk P) : pOk (pAddNode P n).2 := by
  unfold pAddNode
  split
  · exact h
  · split
    · exact h
    · obtain ⟨b1, b2, b3, b4, b5, b6, b7, b8, b9, b10, b11⟩ := h
      exact ⟨b1, ⟨by show 0 ≤ p_nodes P + 1; omega, by show p_nodes P + 1 ≤ 24; omega⟩, b3, b4, b5, b6, up_rng b7 _ (by omega), up_rng b8 _ (by omega), b9, b10, b11⟩
theorem pAddEdge_ok {P : Pg} {n q k : Int} (h : pOk P) (hn : 0 ≤ n ∧ n < 24) (hq : -1 ≤ q ∧ q < 5) (hk : 0 ≤ k ∧ k < 24) : pOk (pAddEdge P n q k).2 := by
  unfold pAddEdge
  split
  · exact h
  · obtain ⟨b1, b2, b3, b4, b5, b6, b7, b8, b9, b10, b11⟩ := h
    exact ⟨b1, b2, ⟨by show 0 ≤ p_edges P + 1; omega, by show p_edges P + 1 ≤ 32; omega⟩, b4, b5, b6, b7, b8, up_rng b9 _ (by omega), up_rng b10 _ (by omega), up_rng b11 _ (by omega)⟩
theorem pAddPlain_ok {P : Pg} {n k : Int} (h : pOk P) : pOk (pAddPlain P n k).2 := by
  have h2 := h.2.1
  unfold pAddPlain
  split
  · exact pAddEdge_ok h (by omega) (by omega) (by omega)
  · exact h
theorem pAddCall_ok {P : Pg} {n q k : Int} (h : pOk P) : pOk (pAddCall P n q k).2 := by
  have h2 := h.2.1
  have h1 := h.1
  unfold pAddCall
  split
  · exact pAddEdge_ok h (by omega) (by omega) (by omega)
  · exact h
theorem pSetFlow_ok {P : Pg} {e w a v : Int} (h : pOk P) : pOk (pSetFlow P e w a v).2 := by
  unfold pSetFlow
  (repeat' split) <;> exact h
theorem pSetStart_ok {P : Pg} {v : Int} (h : pOk P) : pOk (pSetStart P v).2 := by
  unfold pSetStart
  split
  · rename_i hq
    obtain ⟨b1, b2, b3, b4, b5, b6, b7, b8, b9, b10, b11⟩ := h
    exact ⟨b1, b2, b3, ⟨hq.1.1, hq.1.2⟩, b5, b6, b7, b8, b9, b10, b11⟩
  · exact h
theorem pCut_ok {P : Pg} {e : Int} (h : pOk P) : pOk (pCut P e).2 := by
  unfold pCut
  split
  · obtain ⟨b1, b2, b3, b4, b5, b6, b7, b8, b9, b10, b11⟩ := h
    refine it_inv (fun _ X => pOk X) (b := p_edges P - 1) _ e _ (by omega) ⟨b1, b2, ⟨by show 0 ≤ p_edges P - 1; omega, by show p_edges P - 1 ≤ 32; omega⟩, b4, b5, b6, b7, b8, b9, b10, b11⟩ (fun j X h1 h2 hX => ?_)
    obtain ⟨c1, c2, c3, c4, c5, c6, c7, c8, c9, c10, c11⟩ := hX
    exact ⟨c1, c2, c3, c4, c5, c6, c7, c8, up_rng c9 _ (c9 _ (by omega) (by omega)), up_rng c10 _ (c10 _ (by omega) (by omega)), up_rng c11 _ (c11 _ (by omega) (by omega))⟩
  · exact h
def fRef (w : Int) (M : Mf) : Mf := if w = -2 then fs_timesBad M (f_timesBad M + 1) else if w = -3 then fs_timesNo M (f_timesNo M + 1) else fs_timesFull M (f_timesFull M + 1)
def fSetM (a : Int) (M : Mf) : Mf := if a < 0 then fRef a M else fs_now (fs_states M (min (f_states M + 1) 5)) ((f_now M + 1) % 7)
def fSetT (a : Int) (T : Tb) : Tb := if a < 0 then T else ts_ready T 0
def fSetU (a : Int) (U : Sp) : Sp := if a < 0 then U else us_ready U 0
def fEdge (P : Pg) (e w : Int) : Int := if w = 0 then p_from P e else if w = 1 then p_to P e else p_callee P e
def fEntry (P : Pg) (T : Tb) (i w : Int) : Int := if w = 0 then p_procOf P (t_keys T i / 64) else if w = 1 then t_keys T i / 8 % 8 else if w = 2 then t_keys T i / 64 else t_keys T i % 8
def fReached (P : Pg) (T : Tb) : Int := it (fun n r => r + bA (tFacts T n) 1) (p_nodes P).toNat 0 0
def fCounted (P : Pg) (T : Tb) (w : Int) : Int := if w = 0 then p_procs P else if w = 1 then p_nodes P else if w = 2 then p_edges P else if w = 3 then p_start P else if w = 4 then t_size T else fReached P T
def fTally (M : Mf) (X : Tx) (w : Int) : Int := if w = 0 then f_timesBad M else if w = 1 then f_timesNo M else if w = 2 then f_timesFull M else if w = 3 then x_length X else f_states M
def fObey (X : Tx) (i : Int) (D : Pg) : Int × Pg := if x_parts X (i * 5 + 0) = 112 then pAddProc D else if x_parts X (i * 5 + 0) = 110 then pAddNode D (x_parts X (i * 5 + 1)) else if x_parts X (i * 5 + 0) = 101 then pAddPlain D (x_parts X (i * 5 + 1)) (x_parts X (i * 5 + 2)) else if x_parts X (i * 5 + 0) = 99 then pAddCall D (x_parts X (i * 5 + 1)) (x_parts X (i * 5 + 2)) (x_parts X (i * 5 + 3)) else if x_parts X (i * 5 + 0) = 102 then pSetFlow D (x_parts X (i * 5 + 1)) (x_parts X (i * 5 + 2)) (x_parts X (i * 5 + 3)) (x_parts X (i * 5 + 4)) else if x_parts X (i * 5 + 0) = 115 then pSetStart D (x_parts X (i * 5 + 1)) else pCut D (x_parts X (i * 5 + 1))
theorem fObey_ok {X : Tx} {i : Int} {D : Pg} (h : pOk D) : pOk (fObey X i D).2 := by
  unfold fObey
  (repeat' split) <;> first | exact pAddProc_ok h | exact pAddNode_ok h | exact pAddPlain_ok h | exact pAddCall_ok h | exact pSetFlow_ok h | exact pSetStart_ok h | exact pCut_ok h
def fDoL (X : Tx) : Nat → Int → Pg → Bool × Int × Pg
  | 0, i, D => (true, i, D)
  | k + 1, i, D => if (fObey X i D).1 < 0 then (false, i, (fObey X i D).2) else fDoL X k (i + 1) (fObey X i D).2
theorem fDoL_ok (X : Tx) (k : Nat) : ∀ (i : Int) (D : Pg), pOk D → pOk (fDoL X k i D).2.2 := by
  induction k with
  | zero => intro i D h; exact h
  | succ k ih =>
    intro i D h
    unfold fDoL
    split
    · exact fObey_ok h
    · exact ih _ _ (fObey_ok h)
def dNodes (P : Pg) (T : Tb) (U : Sp) (h : Int) : Int := it (fun n h => 31 * (31 * (31 * (31 * h + p_procOf P n) + p_kindOf P n) + tFacts T n) + u_reached U n) (p_nodes P).toNat 0 h
def dEdge (P : Pg) (e h : Int) : Int := it (fun i h => 31 * h + pReach P e (i / 8) (i % 8)) ((if p_callee P e = -1 then 1 else 3) * 8 : Int).toNat 0 (it (fun w h => 31 * h + fEdge P e w) 3 0 h)
def dEdges (P : Pg) (h : Int) : Int := it (dEdge P) (p_edges P).toNat 0 h
def dTop (P : Pg) (T : Tb) (M : Mf) (X : Tx) : Int := it (fun w h => 31 * h + fCounted P T w) 6 0 (it (fun w h => 31 * h + fTally M X w) 5 0 1807)
theorem tFirst_q (T : Tb) (n f : Int) (h : tOk T) (hn : 0 ≤ n ∧ n < 24) (hf : 0 ≤ f ∧ f < 8) : -1 ≤ tFirst T n f ∧ tFirst T n f < 1536 := by
  unfold tFirst
  refine it_inv (fun _ r => -1 ≤ r ∧ r < 1536) (b := 8) 8 0 _ (by omega) (by omega) (fun j r h1 h2 hr => ?_)
  have := h.2.2.2.2.2.2.1 ((n * 8 + j) * 8 + f) (by omega) (by omega)
  (repeat' split) <;> omega
theorem fReached_q (P : Pg) (T : Tb) (hP : pOk P) (h : tOk T) : 0 ≤ fReached P T ∧ fReached P T ≤ 24 := by
  have h2 := hP.2.1
  unfold fReached
  have := it_inv (f := fun n r => r + bA (tFacts T n) 1) (fun j r => 0 ≤ r ∧ r ≤ j) (b := p_nodes P) (p_nodes P).toNat 0 0 (by omega) (by omega) (fun j r h1 h2 hr => by
    have hb := Nat.and_le_right (n := (tFacts T j).toNat) (m := (1 : Int).toNat)
    have : bA (tFacts T j) 1 ≤ 1 := by unfold bA; omega
    have := bA_0 (tFacts T j) 1
    show 0 ≤ r + bA (tFacts T j) 1 ∧ r + bA (tFacts T j) 1 ≤ j + 1
    omega)
  have h3 : 0 ≤ it (fun n r => r + bA (tFacts T n) 1) (p_nodes P).toNat 0 0 ∧ it (fun n r => r + bA (tFacts T n) 1) (p_nodes P).toNat 0 0 ≤ p_nodes P := this
  omega
theorem fCounted_q (P : Pg) (T : Tb) (w : Int) (hP : pOk P) (h : tOk T) : 0 ≤ fCounted P T w ∧ fCounted P T w ≤ 2000 := by
  have h1 := hP.1
  have h2 := hP.2.1
  have h3 := hP.2.2.1
  have h4 := hP.2.2.2.1
  have h5 := h.2.2.2.1
  have h6 := fReached_q P T hP h
  unfold fCounted
  (repeat' split) <;> omega
theorem fTally_q (M : Mf) (X : Tx) (w : Int) (hM : fOk M) (h : xOk X) : 0 ≤ fTally M X w ∧ fTally M X w ≤ 1000000 := by
  obtain ⟨m1, m2, m3, m4, m5⟩ := hM
  have h1 := h.1
  unfold fTally
  (repeat' split) <;> omega
/-! answers of the calls, with what becomes of the parts -/
def fAt (P : Pg) (n w : Int) (M : Mf) : Int × Mf := if (0 ≤ n ∧ n < p_nodes P) ∧ 0 ≤ w ∧ w ≤ 1 then ((if w = 0 then p_procOf P n else p_kindOf P n), M) else (-2, fRef (-2) M)
def fAbout (P : Pg) (e w : Int) (M : Mf) : Int × Mf := if (0 ≤ e ∧ e < p_edges P) ∧ 0 ≤ w ∧ w ≤ 2 then (fEdge P e w, M) else (-2, fRef (-2) M)
def fGoes (P : Pg) (e w a : Int) (M : Mf) : Int × Mf := if ((0 ≤ e ∧ e < p_edges P) ∧ 0 ≤ w ∧ w < (if p_callee P e = -1 then 1 else 3)) ∧ (0 ≤ a ∧ a < 8) then (pReach P e w a, M) else (-2, fRef (-2) M)
def fCount (P : Pg) (w : Int) (M : Mf) (T : Tb) : Int × Mf × Tb := if 0 ≤ w ∧ w ≤ 5 then (fCounted P (if w < 4 then T else tFill P 0 (p_start P) T) w, M, (if w < 4 then T else tFill P 0 (p_start P) T)) else (-2, fRef (-2) M, T)
def fHolds (P : Pg) (n : Int) (M : Mf) (T : Tb) : Int × Mf × Tb := if 0 ≤ n ∧ n < p_nodes P then (tFacts (tFill P 0 (p_start P) T) n, M, tFill P 0 (p_start P) T) else (-2, fRef (-2) M, T)
def fLoose (P : Pg) (n : Int) (M : Mf) (U : Sp) : Int × Mf × Sp := if 0 ≤ n ∧ n < p_nodes P then (u_reached (uFill P U) n, M, uFill P U) else (-2, fRef (-2) M, U)
def fOrigF (P : Pg) (n f : Int) (a : Int) (s : Int × Tb) : Int × Tb := ((if tb (tFacts (tFill P 0 (p2 a) s.2) n) f = true then bO s.1 (p2 a) else s.1), tFill P 0 (p2 a) s.2)
def fOrigins (P : Pg) (n f : Int) (M : Mf) (T : Tb) : Int × Mf × Tb := if (0 ≤ n ∧ n < p_nodes P) ∧ (0 ≤ f ∧ f < 8) then ((it (fOrigF P n f) 8 0 (0, T)).1, M, (it (fOrigF P n f) 8 0 (0, T)).2) else (-2, fRef (-2) M, T)
def fSumT (P : Pg) (e b : Int) (T : Tb) : Tb := tFill P (p_callee P e) (pReach P e 1 b) T
def fSumF (P : Pg) (e b : Int) (T : Tb) : Int := it (fun c r => if tb (pReach P e 1 b) c = true then bO r (pCarry P e 2 (t_seen (fSumT P e b T) (p_exitOf P (p_callee P e) * 8 + c))) else r) 8 0 0
def fSummary (P : Pg) (e b : Int) (M : Mf) (T : Tb) : Int × Mf × Tb := if (0 ≤ e ∧ e < p_edges P) ∧ (0 ≤ b ∧ b < 8) then (if p_callee P e = -1 then (-3, fRef (-3) M, T) else (fSumF P e b T, M, fSumT P e b T)) else (-2, fRef (-2) M, T)
def fEntryA (P : Pg) (i w : Int) (M : Mf) (T : Tb) : Int × Mf × Tb := if 0 ≤ i ∧ 0 ≤ w ∧ w ≤ 3 then ((if i < t_size (tFill P 0 (p_start P) T) then fEntry P (tFill P 0 (p_start P) T) i w else -1), M, tFill P 0 (p_start P) T) else (-2, fRef (-2) M, T)
def fWitA (T : Tb) (n f i : Int) : Int := if tFirst T n f = -1 then -1 else if i = -1 then t_way T (tFirst T n f) else if i < t_way T (tFirst T n f) then tPairOf T (tFirst T n f) i else -1
def fWitness (P : Pg) (n f i : Int) (M : Mf) (T : Tb) : Int × Mf × Tb := if (0 ≤ n ∧ n < p_nodes P) ∧ (0 ≤ f ∧ f < 8) ∧ -1 ≤ i then (fWitA (tFill P 0 (p_start P) T) n f i, M, tFill P 0 (p_start P) T) else (-2, fRef (-2) M, T)
def fType (c : Int) (M : Mf) (X : Tx) : Int × Mf × Tx := if 0 ≤ c ∧ c ≤ 127 then (if x_length X < 120 then (x_length X + 1, M, xApp c X) else (-4, fRef (-4) M, X)) else (-2, fRef (-2) M, X)
def fBack (M : Mf) (T : Tb) (U : Sp) : Int × Mf × Tb × Sp := if f_states M = 0 then (-3, fRef (-3) M, T, U) else (f_states M - 1, fs_now (fs_states M (f_states M - 1)) ((f_now M + 7 - 1) % 7), ts_ready T 0, us_ready U 0)
def fTold (w : Int) (M : Mf) (X : Tx) : Int × Mf := if 0 ≤ w ∧ w ≤ 4 then (fTally M X w, M) else (-2, fRef (-2) M)
def fDoes (P0 P1 : Pg) (M : Mf) (T : Tb) (U : Sp) (X : Tx) : Int × Mf × Tb × Sp × Tx × Pg := if (xRead X).1 ≠ -1 then (-10 - (xRead X).1, M, T, U, (xRead X).2, P1) else
  if (fDoL (xRead X).2 (x_orders (xRead X).2).toNat 0 (pCopy P0 P1)).1 = true then (x_orders (xRead X).2, fSetM (x_orders (xRead X).2) M, fSetT (x_orders (xRead X).2) T, fSetU (x_orders (xRead X).2) U, (xRead X).2, (fDoL (xRead X).2 (x_orders (xRead X).2).toNat 0 (pCopy P0 P1)).2.2)
  else (-1000 - (fDoL (xRead X).2 (x_orders (xRead X).2).toNat 0 (pCopy P0 P1)).2.1, M, T, U, (xRead X).2, (fDoL (xRead X).2 (x_orders (xRead X).2).toNat 0 (pCopy P0 P1)).2.2)
theorem fEdge_q (P : Pg) (e w : Int) (hP : pOk P) (he : 0 ≤ e ∧ e < 32) : -1 ≤ fEdge P e w ∧ fEdge P e w ≤ 23 := by
  obtain ⟨b1, b2, b3, b4, b5, b6, b7, b8, b9, b10, b11⟩ := hP
  have := b9 e (by omega) (by omega)
  have := b10 e (by omega) (by omega)
  have := b11 e (by omega) (by omega)
  unfold fEdge
  (repeat' split) <;> omega
theorem uIter_ok {P : Pg} (hP : pOk P) (k : Nat) : ∀ (gr : Int) (U : Sp), uOk U → uOk (uIter P k gr U) := by
  induction k with
  | zero => intro gr U h; exact h
  | succ k ih =>
    intro gr U h
    unfold uIter
    split
    · exact h
    · have h3 := hP.2.2.1
      exact ih _ _ (it_inv (f := uSF P) (fun _ (s : Int × Sp) => uOk s.2 ∧ (s.1 = 0 ∨ s.1 = 1)) (b := p_edges P) (p_edges P).toNat 0 (0, U) (by omega) ⟨h, Or.inl rfl⟩ (fun j s h1 h2 hs => uSF_ok hP hs.1 hs.2 (by omega))).1
theorem uFill_ok {P : Pg} {U : Sp} (hP : pOk P) (h : uOk U) : uOk (uFill P U) := by
  unfold uFill
  split
  · exact h
  · have h1 := uClr_ok h
    have h4 := hP.2.2.2.1
    exact uIter_ok hP _ _ _ ⟨h1.1, up_rng h1.2 _ (by omega)⟩
theorem pAddProc_a {P : Pg} (h : pOk P) : rg (pAddProc P).1 := by
  have h1 := h.1
  unfold pAddProc; split <;> (show rg _; simp only [rg]; omega)
theorem pAddNode_a {P : Pg} {n : Int} (h : pOk P) : rg (pAddNode P n).1 := by
  have h1 := h.2.1
  unfold pAddNode; (repeat' split) <;> (simp only [rg]; omega)
theorem pAddEdge_a {P : Pg} {n q k : Int} (h : pOk P) : rg (pAddEdge P n q k).1 := by
  have h1 := h.2.2.1
  unfold pAddEdge; (repeat' split) <;> (simp only [rg]; omega)
theorem pAddPlain_a {P : Pg} {n k : Int} (h : pOk P) : rg (pAddPlain P n k).1 := by
  unfold pAddPlain; split
  · exact pAddEdge_a h
  · simp only [rg]; omega
theorem pAddCall_a {P : Pg} {n q k : Int} (h : pOk P) : rg (pAddCall P n q k).1 := by
  unfold pAddCall; split
  · exact pAddEdge_a h
  · simp only [rg]; omega
theorem pSetFlow_a {P : Pg} {e w a v : Int} (_h : pOk P) : rg (pSetFlow P e w a v).1 := by
  have := pReach_r P e w a
  unfold pSetFlow; (repeat' split) <;> (simp only [rg]; omega)
theorem pSetStart_a {P : Pg} {v : Int} (h : pOk P) : rg (pSetStart P v).1 := by
  have h1 := h.2.2.2.1
  unfold pSetStart; split <;> (simp only [rg]; omega)
theorem pCut_a {P : Pg} {e : Int} (h : pOk P) : rg (pCut P e).1 := by
  have h1 := h.2.2.1
  unfold pCut; split <;> (simp only [rg]; omega)

theorem xLoop_a (em : Int) (hem : -1 ≤ em ∧ em ≤ 120) (k : Nat) : ∀ X : Tx, xOk X → x_place X ≤ x_length X → x_orders X + k = 60 → -1 ≤ (xLoop em k X).1 ∧ (xLoop em k X).1 ≤ 120 := by
  induction k with
  | zero => intro X h _ _; exact hem
  | succ k ih =>
    intro X h hp hk
    have h2 := h.2.1
    unfold xLoop
    split
    · rename_i hlt
      have hT := xStep_ok h hlt (by omega)
      split
      · exact ih _ hT.2.1 hT.2.2.1 (by rw [hT.2.2.2.2]; omega)
      · have h5 := hT.1.1.2.2.2.2
        exact ⟨by show -1 ≤ x_place _; omega, by show x_place _ ≤ 120; omega⟩
    · exact hem
theorem xRead_a {X : Tx} (h : xOk X) : -1 ≤ (xRead X).1 ∧ (xRead X).1 ≤ 120 := by
  have hS := xStart_ok h
  have h1 := h.1
  exact xLoop_a _ (by split <;> omega) 60 (xStart X) hS.1 (by rw [hS.2.2.1]; exact hS.2.1) (by show (0 : Int) + 60 = 60; decide)
theorem fObey_a {X : Tx} {i : Int} {D : Pg} (h : pOk D) : rg (fObey X i D).1 := by
  unfold fObey
  (repeat' split) <;> first | exact pAddProc_a h | exact pAddNode_a h | exact pAddPlain_a h | exact pAddCall_a h | exact pSetFlow_a h | exact pSetStart_a h | exact pCut_a h

set_option maxHeartbeats 4000000 in
set_option maxRecDepth 100000 in
theorem c_X5_loosens (l : Launch) (g : GG) (o : Nat) (ad : Nat → Nat) (M : Md) (hM : mOk M) (hN : nOk (m_now M)) (hWf : nWf (m_now M)) : MW l g yX5_loosens cX5_loosens 9 none 2 48 [.ref (o)] (mF g o ad (m_refused M) (m_now M) (m_kept M) (m_states M) (m_place M) (m_startFact M) (m_node M) (m_fact M) (m_ahead M) (m_inside M) (m_entries M) (m_caller M) (m_following M) (m_firstCaller M) (m_lastCaller M) (m_callers M) (m_known M) (m_loose M) (m_stack M) (m_high M) (m_pairs M) (m_told M) (m_text M) (m_typed M) (m_orders M) (m_written M) (m_look M)) (mF g o ad (m_refused M) (m_now M) (m_kept M) (m_states M) (m_place M) (m_startFact M) (m_node M) (m_fact M) (m_ahead M) (m_inside M) (m_entries M) (m_caller M) (m_following M) (m_firstCaller M) (m_lastCaller M) (m_callers M) (m_known M) (lIter (m_now M) 193 (lSt (m_now M) (m_loose M))) (m_stack M) (m_high M) (m_pairs M) (m_told M) (m_text M) (m_typed M) (m_orders M) (m_written M) (m_look M)) none := by
  refine MW_start (by decide) (Nat.le_of_ble_eq_true rfl) ?_
  intro zp ze zs zm zb zt zc A hAe C hrt hlk hW ls hl
  have hA : ∀ q, zs.heap.size ≤ q → A q := fun q h => by rw [hAe]; exact Or.inr h
  have hl : lv_has ls 9 [(0, .ref (o))] := hl
  have hM_refused : ∀ j : Int, 0 ≤ j → j < 3 → 0 ≤ m_refused M j ∧ m_refused M j ≤ 1000000 := hM.1
  have hM_states : 0 ≤ m_states M ∧ m_states M ≤ 5 := hM.2.1
  have hM_place : ∀ j : Int, 0 ≤ j → j < 1536 → 0 ≤ m_place M j ∧ m_place M j ≤ 1536 := hM.2.2.1
  have hM_startFact : ∀ j : Int, 0 ≤ j → j < 1536 → 0 ≤ m_startFact M j ∧ m_startFact M j ≤ 7 := hM.2.2.2.1
  have hM_node : ∀ j : Int, 0 ≤ j → j < 1536 → 0 ≤ m_node M j ∧ m_node M j ≤ 23 := hM.2.2.2.2.1
  have hM_fact : ∀ j : Int, 0 ≤ j → j < 1536 → 0 ≤ m_fact M j ∧ m_fact M j ≤ 7 := hM.2.2.2.2.2.1
  have hM_ahead : ∀ j : Int, 0 ≤ j → j < 1536 → -1 ≤ m_ahead M j ∧ m_ahead M j ≤ 1535 := hM.2.2.2.2.2.2.1
  have hM_inside : ∀ j : Int, 0 ≤ j → j < 1536 → -1 ≤ m_inside M j ∧ m_inside M j ≤ 1535 := hM.2.2.2.2.2.2.2.1
  have hM_entries : 0 ≤ m_entries M ∧ m_entries M ≤ 1536 := hM.2.2.2.2.2.2.2.2.1
  have hM_caller : ∀ j : Int, 0 ≤ j → j < 16384 → 0 ≤ m_caller M j ∧ m_caller M j ≤ 49151 := hM.2.2.2.2.2.2.2.2.2.1
  have hM_following : ∀ j : Int, 0 ≤ j → j < 16384 → -1 ≤ m_following M j ∧ m_following M j ≤ 16383 := hM.2.2.2.2.2.2.2.2.2.2.1
  have hM_firstCaller : ∀ j : Int, 0 ≤ j → j < 40 → -1 ≤ m_firstCaller M j ∧ m_firstCaller M j ≤ 16383 := hM.2.2.2.2.2.2.2.2.2.2.2.1
  have hM_lastCaller : ∀ j : Int, 0 ≤ j → j < 40 → -1 ≤ m_lastCaller M j ∧ m_lastCaller M j ≤ 16383 := hM.2.2.2.2.2.2.2.2.2.2.2.2.1
  have hM_callers : 0 ≤ m_callers M ∧ m_callers M ≤ 16384 := hM.2.2.2.2.2.2.2.2.2.2.2.2.2.1
  have hM_known : 0 ≤ m_known M ∧ m_known M ≤ 1 := hM.2.2.2.2.2.2.2.2.2.2.2.2.2.2.1
  have hM_loose : ∀ j : Int, 0 ≤ j → j < 24 → 0 ≤ m_loose M j ∧ m_loose M j ≤ 255 := hM.2.2.2.2.2.2.2.2.2.2.2.2.2.2.2.1
  have hM_stack : ∀ j : Int, 0 ≤ j → j < 8000 → 0 ≤ m_stack M j ∧ m_stack M j ≤ 6143 := hM.2.2.2.2.2.2.2.2.2.2.2.2.2.2.2.2.1
  have hM_high : 0 ≤ m_high M ∧ m_high M ≤ 8000 := hM.2.2.2.2.2.2.2.2.2.2.2.2.2.2.2.2.2.1
  have hM_pairs : ∀ j : Int, 0 ≤ j → j < 1000 → 0 ≤ m_pairs M j ∧ m_pairs M j ≤ 239 := hM.2.2.2.2.2.2.2.2.2.2.2.2.2.2.2.2.2.2.1
  have hM_told : 0 ≤ m_told M ∧ m_told M ≤ 1000 := hM.2.2.2.2.2.2.2.2.2.2.2.2.2.2.2.2.2.2.2.1
  have hM_text : ∀ j : Int, 0 ≤ j → j < 120 → 0 ≤ m_text M j ∧ m_text M j ≤ 127 := hM.2.2.2.2.2.2.2.2.2.2.2.2.2.2.2.2.2.2.2.2.1
  have hM_typed : 0 ≤ m_typed M ∧ m_typed M ≤ 120 := hM.2.2.2.2.2.2.2.2.2.2.2.2.2.2.2.2.2.2.2.2.2.1
  have hM_orders : ∀ j : Int, 0 ≤ j → j < 300 → 0 ≤ m_orders M j ∧ m_orders M j ≤ 999 := hM.2.2.2.2.2.2.2.2.2.2.2.2.2.2.2.2.2.2.2.2.2.2.1
  have hM_written : 0 ≤ m_written M ∧ m_written M ≤ 60 := hM.2.2.2.2.2.2.2.2.2.2.2.2.2.2.2.2.2.2.2.2.2.2.2.1
  have hM_look : 0 ≤ m_look M ∧ m_look M ≤ 120 := hM.2.2.2.2.2.2.2.2.2.2.2.2.2.2.2.2.2.2.2.2.2.2.2.2
  have hN_0 := hN.1
  have hN_1 := hN.2.1
  have hN_2 := hN.2.2.1
  have hN_3 := hN.2.2.2.1
  refine r_iconst (z := 0) C dX5_loosens_0 rfl ?_
  refine r_istore_n C [(1, .int (iI (0))), (0, .ref (o))] dX5_loosens_1 hl (by decide) rfl (fun ls hl => ?_)
  have hloop2 : ∀ (k2 : Nat) (i : Int) (L : Int → Int) (hkk : i + k2 = 24) (hi : 0 ≤ i) (hq1 : cLo (m_loose M) = it (fun k (f : Int → Int) => up f k 0) k2 i L) (H : Heap) (locs : List Loc) (ls : Array Slot), HW g A zs.heap (mF g o ad (m_refused M) (m_now M) (m_kept M) (m_states M) (m_place M) (m_startFact M) (m_node M) (m_fact M) (m_ahead M) (m_inside M) (m_entries M) (m_caller M) (m_following M) (m_firstCaller M) (m_lastCaller M) (m_callers M) (m_known M) L (m_stack M) (m_high M) (m_pairs M) (m_told M) (m_text M) (m_typed M) (m_orders M) (m_written M) (m_look M)) H locs → lv_has ls 9 [(0, .ref (o)), (1, .int (iI (i)))] → W zp l ze (rmm 2 48) zs zm (List.toArray [.ref (o)]) zb zt zc H locs 0 0 (MQ zb (QW g (mF g o ad (m_refused M) (m_now M) (m_kept M) (m_states M) (m_place M) (m_startFact M) (m_node M) (m_fact M) (m_ahead M) (m_inside M) (m_entries M) (m_caller M) (m_following M) (m_firstCaller M) (m_lastCaller M) (m_callers M) (m_known M) (m_loose M) (m_stack M) (m_high M) (m_pairs M) (m_told M) (m_text M) (m_typed M) (m_orders M) (m_written M) (m_look M)) (mF g o ad (m_refused M) (m_now M) (m_kept M) (m_states M) (m_place M) (m_startFact M) (m_node M) (m_fact M) (m_ahead M) (m_inside M) (m_entries M) (m_caller M) (m_following M) (m_firstCaller M) (m_lastCaller M) (m_callers M) (m_known M) (lIter (m_now M) 193 (lSt (m_now M) (m_loose M))) (m_stack M) (m_high M) (m_pairs M) (m_told M) (m_text M) (m_typed M) (m_orders M) (m_written M) (m_look M)) zs.heap.size none) (List.toArray [.ref (o)]) zs 0 0 A) (F0 zm 2 ls []) := by
    intro k2
    induction k2 with
    | zero =>
      intro i L hkk hi hq1 H locs ls hW hl
      refine r_iload_n C dX5_loosens_2 hl 1 rfl ?_
      refine r_bipush (z := 24) C dX5_loosens_3 rfl ?_
      refine r_icmp_ge C 21 dX5_loosens_5 (by decide) (by omega) (by omega) (fun hc1 => ?_) (fun hc1 => ?_)
      · skip
        refine r_aload_n C dX5_loosens_21 hl 0 rfl ?_
        refine r_get (v := .ref (ad 13)) C f_X5_49 hW.1 0 rfl rfl dX5_loosens_22 ?_
        refine r_aload_n C dX5_loosens_25 hl 0 rfl ?_
        refine r_get (v := .ref (ad 1)) C f_X5_13 hW.1 0 rfl rfl dX5_loosens_26 ?_
        refine r_iconst (z := 4) C dX5_loosens_29 rfl ?_
        refine r_iald (f := m_now M) C hW.1 2 rfl (Nat.le_of_ble_eq_true rfl) (by omega) dX5_loosens_30 ?_
        have hr2 := nEnd_q (m_now M) 4 hN (by omega)
        refine r_aload_n C dX5_loosens_31 hl 0 rfl ?_
        refine r_get (v := .ref (ad 1)) C f_X5_13 hW.1 0 rfl rfl dX5_loosens_32 ?_
        refine r_iconst (z := 3) C dX5_loosens_35 rfl ?_
        refine r_iald (f := m_now M) C hW.1 2 rfl (Nat.le_of_ble_eq_true rfl) (by omega) dX5_loosens_36 ?_
        have hr3 := hN.2.2.2.1
        refine r_iast (f := L) C hW (mF g o ad (m_refused M) (m_now M) (m_kept M) (m_states M) (m_place M) (m_startFact M) (m_node M) (m_fact M) (m_ahead M) (m_inside M) (m_entries M) (m_caller M) (m_following M) (m_firstCaller M) (m_lastCaller M) (m_callers M) (m_known M) (up L (m_now M 4) (m_now M 3)) (m_stack M) (m_high M) (m_pairs M) (m_told M) (m_text M) (m_typed M) (m_orders M) (m_written M) (m_look M)) 14 rfl (Nat.le_of_ble_eq_true rfl) (by omega) rfl dX5_loosens_37 (fun H locs hW => ?_)
        refine r_iconst (z := 1) C dX5_loosens_38 rfl ?_
        refine r_istore_n C [(1, .int (iI (1))), (0, .ref (o))] dX5_loosens_39 hl (by decide) rfl (fun ls hl => ?_)
        have hloop40 : ∀ (k40 : Nat) (mo : Int) (L0 : Int → Int) (hkk0 : mo = 0 ∨ 193 ≤ wtF L0 24 + k40) (hmo : mo = 0 ∨ mo = 1) (hLo0 : lOk L0) (hq : lIter (m_now M) 193 (lSt (m_now M) (m_loose M)) = if mo = 0 then L0 else lIter (m_now M) k40 L0) (H : Heap) (locs : List Loc) (ls : Array Slot), HW g A zs.heap (mF g o ad (m_refused M) (m_now M) (m_kept M) (m_states M) (m_place M) (m_startFact M) (m_node M) (m_fact M) (m_ahead M) (m_inside M) (m_entries M) (m_caller M) (m_following M) (m_firstCaller M) (m_lastCaller M) (m_callers M) (m_known M) L0 (m_stack M) (m_high M) (m_pairs M) (m_told M) (m_text M) (m_typed M) (m_orders M) (m_written M) (m_look M)) H locs → lv_has ls 9 [(0, .ref (o)), (1, .int (iI (mo)))] → W zp l ze (rmm 2 48) zs zm (List.toArray [.ref (o)]) zb zt zc H locs 0 0 (MQ zb (QW g (mF g o ad (m_refused M) (m_now M) (m_kept M) (m_states M) (m_place M) (m_startFact M) (m_node M) (m_fact M) (m_ahead M) (m_inside M) (m_entries M) (m_caller M) (m_following M) (m_firstCaller M) (m_lastCaller M) (m_callers M) (m_known M) (m_loose M) (m_stack M) (m_high M) (m_pairs M) (m_told M) (m_text M) (m_typed M) (m_orders M) (m_written M) (m_look M)) (mF g o ad (m_refused M) (m_now M) (m_kept M) (m_states M) (m_place M) (m_startFact M) (m_node M) (m_fact M) (m_ahead M) (m_inside M) (m_entries M) (m_caller M) (m_following M) (m_firstCaller M) (m_lastCaller M) (m_callers M) (m_known M) (lIter (m_now M) 193 (lSt (m_now M) (m_loose M))) (m_stack M) (m_high M) (m_pairs M) (m_told M) (m_text M) (m_typed M) (m_orders M) (m_written M) (m_look M)) zs.heap.size none) (List.toArray [.ref (o)]) zs 0 0 A) (F0 zm 40 ls []) := by
          intro k40
          induction k40 with
          | zero =>
            intro mo L0 hkk0 hmo hLo0 hq H locs ls hW hl
            have hwt := wtF_r L0 24
            refine r_iload_n C dX5_loosens_40 hl 1 rfl ?_
            refine r_if_eq C 244 dX5_loosens_41 (by decide) (by omega) (fun hc4 => ?_) (fun hc4 => ?_)
            · skip
              exact MW_vret C hAe hrt hlk hW dX5_loosens_244 rfl (by rw [hq, if_pos (by omega)])
            · exact absurd hc4 (by omega)
          | succ k40 ih40 =>
            intro mo L0 hkk0 hmo hLo0 hq H locs ls hW hl
            have hwt := wtF_r L0 24
            refine r_iload_n C dX5_loosens_40 hl 1 rfl ?_
            refine r_if_eq C 244 dX5_loosens_41 (by decide) (by omega) (fun hc5 => ?_) (fun hc5 => ?_)
            · skip
              exact MW_vret C hAe hrt hlk hW dX5_loosens_244 rfl (by rw [hq, if_pos (by omega)])
            · skip
              refine r_iconst (z := 0) C dX5_loosens_44 rfl ?_
              refine r_istore_n C [(1, .int (iI (0))), (0, .ref (o))] dX5_loosens_45 hl (by decide) rfl (fun ls hl => ?_)
              refine r_iconst (z := 0) C dX5_loosens_46 rfl ?_
              refine r_istore_n C [(2, .int (iI (0))), (1, .int (iI (0))), (0, .ref (o))] dX5_loosens_47 hl (by decide) rfl (fun ls hl => ?_)
              have hloop48 : ∀ (k48 : Nat) (e mo2 : Int) (L2 : Int → Int) (hkk2 : e + k48 = m_now M 2) (he : 0 ≤ e) (hI : lI9 L0 (mo2, L2)) (hLo : lOk L2) (hq2 : lRound (m_now M) L0 = it (lStep (m_now M)) k48 e (mo2, L2)) (H : Heap) (locs : List Loc) (ls : Array Slot), HW g A zs.heap (mF g o ad (m_refused M) (m_now M) (m_kept M) (m_states M) (m_place M) (m_startFact M) (m_node M) (m_fact M) (m_ahead M) (m_inside M) (m_entries M) (m_caller M) (m_following M) (m_firstCaller M) (m_lastCaller M) (m_callers M) (m_known M) L2 (m_stack M) (m_high M) (m_pairs M) (m_told M) (m_text M) (m_typed M) (m_orders M) (m_written M) (m_look M)) H locs → lv_has ls 9 [(0, .ref (o)), (1, .int (iI (mo2))), (2, .int (iI (e)))] → W zp l ze (rmm 2 48) zs zm (List.toArray [.ref (o)]) zb zt zc H locs 0 0 (MQ zb (QW g (mF g o ad (m_refused M) (m_now M) (m_kept M) (m_states M) (m_place M) (m_startFact M) (m_node M) (m_fact M) (m_ahead M) (m_inside M) (m_entries M) (m_caller M) (m_following M) (m_firstCaller M) (m_lastCaller M) (m_callers M) (m_known M) (m_loose M) (m_stack M) (m_high M) (m_pairs M) (m_told M) (m_text M) (m_typed M) (m_orders M) (m_written M) (m_look M)) (mF g o ad (m_refused M) (m_now M) (m_kept M) (m_states M) (m_place M) (m_startFact M) (m_node M) (m_fact M) (m_ahead M) (m_inside M) (m_entries M) (m_caller M) (m_following M) (m_firstCaller M) (m_lastCaller M) (m_callers M) (m_known M) (lIter (m_now M) 193 (lSt (m_now M) (m_loose M))) (m_stack M) (m_high M) (m_pairs M) (m_told M) (m_text M) (m_typed M) (m_orders M) (m_written M) (m_look M)) zs.heap.size none) (List.toArray [.ref (o)]) zs 0 0 A) (F0 zm 48 ls []) := by
                intro k48
                induction k48 with
                | zero =>
                  intro e mo2 L2 hkk2 he hI hLo hq2 H locs ls hW hl
                  have hmo2 := hI.2.2.1
                  refine r_iload_n C dX5_loosens_48 hl 2 rfl ?_
                  refine r_aload_n C dX5_loosens_49 hl 0 rfl ?_
                  refine r_get (v := .ref (ad 1)) C f_X5_13 hW.1 0 rfl rfl dX5_loosens_50 ?_
                  refine r_iconst (z := 2) C dX5_loosens_53 rfl ?_
                  refine r_iald (f := m_now M) C hW.1 2 rfl (Nat.le_of_ble_eq_true rfl) (by omega) dX5_loosens_54 ?_
                  have hr6 := hN.2.2.1
                  refine r_icmp_ge C 241 dX5_loosens_55 (by decide) (by omega) (by omega) (fun hc7 => ?_) (fun hc7 => ?_)
                  · skip
                    refine r_goto C 40 dX5_loosens_241 (by decide) ?_
                    have hR : lRound (m_now M) L0 = (mo2, L2) := hq2
                    have hw1 : mo2 ≠ 0 → wtF L0 24 < wtF L2 24 := fun h9 => by have h8 := lRound_wt hN hWf hLo0 (by rw [hR]; exact h9); rw [hR] at h8; exact h8
                    exact ih40 mo2 L2 (Classical.byCases (fun h9 : mo2 = 0 => Or.inl h9) (fun h9 => by have := hw1 h9; omega)) hI.2.2.1 hLo (by rw [hq, if_neg (by omega)]; show (if (lRound (m_now M) L0).1 = 0 then (lRound (m_now M) L0).2 else lIter (m_now M) k40 (lRound (m_now M) L0).2) = _; rw [hR]) _ _ ls hW (lv_sub hl [0, 1] rfl)
                  · exact absurd hc7 (by omega)
                | succ k48 ih48 =>
                  intro e mo2 L2 hkk2 he hI hLo hq2 H locs ls hW hl
                  have hmo2 := hI.2.2.1
                  refine r_iload_n C dX5_loosens_48 hl 2 rfl ?_
                  refine r_aload_n C dX5_loosens_49 hl 0 rfl ?_
                  refine r_get (v := .ref (ad 1)) C f_X5_13 hW.1 0 rfl rfl dX5_loosens_50 ?_
                  refine r_iconst (z := 2) C dX5_loosens_53 rfl ?_
                  refine r_iald (f := m_now M) C hW.1 2 rfl (Nat.le_of_ble_eq_true rfl) (by omega) dX5_loosens_54 ?_
                  have hr8 := hN.2.2.1
                  refine r_icmp_ge C 241 dX5_loosens_55 (by decide) (by omega) (by omega) (fun hc9 => ?_) (fun hc9 => ?_)
                  · exact absurd hc9 (by omega)
                  · skip
                    refine r_aload_n C dX5_loosens_58 hl 0 rfl ?_
                    refine r_iload_n C dX5_loosens_59 hl 2 rfl ?_
                    refine r_iconst (z := 0) C dX5_loosens_60 rfl ?_
                    refine r_callR (rest := []) (r := .int (iI ((m_now M) (62 + 27 * e + 0)))) C hl.1 (c_X5_edgeOf l g o ad (m_refused M) (m_now M) (m_kept M) (m_states M) (m_place M) (m_startFact M) (m_node M) (m_fact M) (m_ahead M) (m_inside M) (m_entries M) (m_caller M) (m_following M) (m_firstCaller M) (m_lastCaller M) (m_callers M) (m_known M) L2 (m_stack M) (m_high M) (m_pairs M) (m_told M) (m_text M) (m_typed M) (m_orders M) (m_written M) (m_look M) e 0 (by assumption) (show 0 ≤ e ∧ e < 32 by omega) (show 0 ≤ 0 ∧ 0 < 3 by omega)) v_X5_118 rfl hW.1 0 rfl rfl rfl (by decide) (by decide) (Nat.le_of_ble_eq_true rfl) dX5_loosens_61 rfl ?_
                    have hq10 := nEdge_q ((m_now M)) e 0 (by assumption) (by omega) (by omega)
                    refine r_istore_n C [(3, .int (iI ((m_now M) (62 + 27 * e + 0)))), (0, .ref (o)), (1, .int (iI (mo2))), (2, .int (iI (e)))] dX5_loosens_64 hl (by decide) rfl (fun ls hl => ?_)
                    refine r_aload_n C dX5_loosens_65 hl 1 rfl ?_
                    refine r_iload_n C dX5_loosens_66 hl 3 rfl ?_
                    refine r_iconst (z := 1) C dX5_loosens_67 rfl ?_
                    refine r_callR (rest := []) (r := .int (iI ((m_now M) (62 + 27 * e + 1)))) C hl.1 (c_X5_edgeOf l g o ad (m_refused M) (m_now M) (m_kept M) (m_states M) (m_place M) (m_startFact M) (m_node M) (m_fact M) (m_ahead M) (m_inside M) (m_entries M) (m_caller M) (m_following M) (m_firstCaller M) (m_lastCaller M) (m_callers M) (m_known M) L2 (m_stack M) (m_high M) (m_pairs M) (m_told M) (m_text M) (m_typed M) (m_orders M) (m_written M) (m_look M) e 1 (by assumption) (show 0 ≤ e ∧ e < 32 by omega) (show 0 ≤ 1 ∧ 1 < 3 by omega)) v_X5_118 rfl hW.1 0 rfl rfl rfl (by decide) (by decide) (Nat.le_of_ble_eq_true rfl) dX5_loosens_68 rfl ?_
                    have hq11 := nEdge_q ((m_now M)) e 1 (by assumption) (by omega) (by omega)
                    refine r_istore C [(4, .int (iI ((m_now M) (62 + 27 * e + 1)))), (3, .int (iI ((m_now M) (62 + 27 * e + 0)))), (0, .ref (o)), (1, .int (iI (mo2))), (2, .int (iI (e)))] dX5_loosens_71 hl (by decide) rfl (fun ls hl => ?_)
                    refine r_aload_n C dX5_loosens_73 hl 2 rfl ?_
                    refine r_iload_n C dX5_loosens_74 hl 4 rfl ?_
                    refine r_iconst (z := 2) C dX5_loosens_75 rfl ?_
                    refine r_callR (rest := []) (r := .int (iI ((m_now M) (62 + 27 * e + 2)))) C hl.1 (c_X5_edgeOf l g o ad (m_refused M) (m_now M) (m_kept M) (m_states M) (m_place M) (m_startFact M) (m_node M) (m_fact M) (m_ahead M) (m_inside M) (m_entries M) (m_caller M) (m_following M) (m_firstCaller M) (m_lastCaller M) (m_callers M) (m_known M) L2 (m_stack M) (m_high M) (m_pairs M) (m_told M) (m_text M) (m_typed M) (m_orders M) (m_written M) (m_look M) e 2 (by assumption) (show 0 ≤ e ∧ e < 32 by omega) (show 0 ≤ 2 ∧ 2 < 3 by omega)) v_X5_118 rfl hW.1 0 rfl rfl rfl (by decide) (by decide) (Nat.le_of_ble_eq_true rfl) dX5_loosens_76 rfl ?_
                    have hq12 := nEdge_q ((m_now M)) e 2 (by assumption) (by omega) (by omega)
                    refine r_istore C [(5, .int (iI ((m_now M) (62 + 27 * e + 2)))), (4, .int (iI ((m_now M) (62 + 27 * e + 1)))), (3, .int (iI ((m_now M) (62 + 27 * e + 0)))), (0, .ref (o)), (1, .int (iI (mo2))), (2, .int (iI (e)))] dX5_loosens_79 hl (by decide) rfl (fun ls hl => ?_)
                    have hl1 := hLo (m_now M (62 + 27 * e + 1)) (by omega) (by omega)
                    have hl0 := hLo (m_now M (62 + 27 * e + 0)) (by omega) (by omega)
                    refine r_aload_n C dX5_loosens_81 hl 3 rfl ?_
                    refine r_get (v := .ref (ad 13)) C f_X5_49 hW.1 0 rfl rfl dX5_loosens_82 ?_
                    refine r_iload C dX5_loosens_85 hl 1 rfl ?_
                    refine r_iald (f := L2) C hW.1 14 rfl (Nat.le_of_ble_eq_true rfl) (by omega) dX5_loosens_87 ?_
                    refine r_aload_n C dX5_loosens_88 hl 3 rfl ?_
                    refine r_iload_n C dX5_loosens_89 hl 5 rfl ?_
                    refine r_iconst (z := 0) C dX5_loosens_90 rfl ?_
                    refine r_aload_n C dX5_loosens_91 hl 3 rfl ?_
                    refine r_get (v := .ref (ad 13)) C f_X5_49 hW.1 0 rfl rfl dX5_loosens_92 ?_
                    refine r_iload_n C dX5_loosens_95 hl 2 rfl ?_
                    refine r_iald (f := L2) C hW.1 14 rfl (Nat.le_of_ble_eq_true rfl) (by omega) dX5_loosens_96 ?_
                    refine r_callR (rest := [.int (iI (L2 ((m_now M) (62 + 27 * e + 1))))]) (r := .int (iI (nCarry ((m_now M)) e 0 (L2 ((m_now M) (62 + 27 * e + 0)))))) C hl.1 (c_X5_carried l g o ad (m_refused M) (m_now M) (m_kept M) (m_states M) (m_place M) (m_startFact M) (m_node M) (m_fact M) (m_ahead M) (m_inside M) (m_entries M) (m_caller M) (m_following M) (m_firstCaller M) (m_lastCaller M) (m_callers M) (m_known M) L2 (m_stack M) (m_high M) (m_pairs M) (m_told M) (m_text M) (m_typed M) (m_orders M) (m_written M) (m_look M) e 0 (L2 ((m_now M) (62 + 27 * e + 0))) (by assumption) (show 0 ≤ e ∧ e < 32 by omega) (show 0 ≤ 0 ∧ 0 < 3 by omega) (show 0 ≤ (L2 ((m_now M) (62 + 27 * e + 0))) ∧ (L2 ((m_now M) (62 + 27 * e + 0))) < 256 by omega)) v_X5_200 rfl hW.1 0 rfl rfl rfl (by decide) (by decide) (Nat.le_of_ble_eq_true rfl) dX5_loosens_97 rfl ?_
                    have hc0 := nCarry_q (m_now M) e 0 (L2 (m_now M (62 + 27 * e + 0))) hN (by omega) (by omega)
                    refine r_ior C (by omega) (by omega) dX5_loosens_100 ?_
                    have hb13 := bO_0 (L2 ((m_now M) (62 + 27 * e + 1))) (nCarry ((m_now M)) e 0 (L2 ((m_now M) (62 + 27 * e + 0))))
                    have hb14 : bO (L2 ((m_now M) (62 + 27 * e + 1))) (nCarry ((m_now M)) e 0 (L2 ((m_now M) (62 + 27 * e + 0)))) < 256 := bO_8 (by omega) (by omega)
                    refine r_istore C [(6, .int (iI (bO (L2 ((m_now M) (62 + 27 * e + 1))) (nCarry ((m_now M)) e 0 (L2 ((m_now M) (62 + 27 * e + 0))))))), (5, .int (iI ((m_now M) (62 + 27 * e + 2)))), (4, .int (iI ((m_now M) (62 + 27 * e + 1)))), (3, .int (iI ((m_now M) (62 + 27 * e + 0)))), (0, .ref (o)), (1, .int (iI (mo2))), (2, .int (iI (e)))] dX5_loosens_101 hl (by decide) rfl (fun ls hl => ?_)
                    refine r_iload C dX5_loosens_103 hl 1 rfl ?_
                    refine r_iconst (z := -1) C dX5_loosens_105 rfl ?_
                    refine r_icmp_eq C 204 dX5_loosens_106 (by decide) (by omega) (by omega) (fun hc15 => ?_) (fun hc15 => ?_)
                    · skip
                      refine r_iload_n C dX5_loosens_204 hl 5 rfl ?_
                      refine r_if_ne C 220 dX5_loosens_205 (by decide) (by omega) (fun hc16 => ?_) (fun hc16 => ?_)
                      · skip
                        refine r_iconst (z := 1) C dX5_loosens_220 rfl ?_
                        refine r_goto C 225 dX5_loosens_221 (by decide) ?_
                        refine r_istore_n C [(1, .int (iI (1))), (6, .int (iI (bO (L2 ((m_now M) (62 + 27 * e + 1))) (nCarry ((m_now M)) e 0 (L2 ((m_now M) (62 + 27 * e + 0))))))), (5, .int (iI ((m_now M) (62 + 27 * e + 2)))), (4, .int (iI ((m_now M) (62 + 27 * e + 1)))), (3, .int (iI ((m_now M) (62 + 27 * e + 0)))), (0, .ref (o)), (2, .int (iI (e)))] dX5_loosens_225 hl (by decide) rfl (fun ls hl => ?_)
                        refine r_aload_n C dX5_loosens_226 hl 5 rfl ?_
                        refine r_get (v := .ref (ad 13)) C f_X5_49 hW.1 0 rfl rfl dX5_loosens_227 ?_
                        refine r_iload C dX5_loosens_230 hl 3 rfl ?_
                        refine r_iload C dX5_loosens_232 hl 1 rfl ?_
                        refine r_iast (f := L2) C hW (mF g o ad (m_refused M) (m_now M) (m_kept M) (m_states M) (m_place M) (m_startFact M) (m_node M) (m_fact M) (m_ahead M) (m_inside M) (m_entries M) (m_caller M) (m_following M) (m_firstCaller M) (m_lastCaller M) (m_callers M) (m_known M) (up L2 ((m_now M) (62 + 27 * e + 1)) (bO (L2 ((m_now M) (62 + 27 * e + 1))) (nCarry ((m_now M)) e 0 (L2 ((m_now M) (62 + 27 * e + 0)))))) (m_stack M) (m_high M) (m_pairs M) (m_told M) (m_text M) (m_typed M) (m_orders M) (m_written M) (m_look M)) 14 rfl (Nat.le_of_ble_eq_true rfl) (by omega) rfl dX5_loosens_234 (fun H locs hW => ?_)
                        refine r_iinc (v := e + 1) C [(2, .int (iI (e + 1))), (1, .int (iI (1))), (6, .int (iI (bO (L2 ((m_now M) (62 + 27 * e + 1))) (nCarry ((m_now M)) e 0 (L2 ((m_now M) (62 + 27 * e + 0))))))), (5, .int (iI ((m_now M) (62 + 27 * e + 2)))), (4, .int (iI ((m_now M) (62 + 27 * e + 1)))), (3, .int (iI ((m_now M) (62 + 27 * e + 0)))), (0, .ref (o))] dX5_loosens_235 hl 6 rfl (by decide) (by omega) rfl (fun ls hl => ?_)
                        refine r_goto C 48 dX5_loosens_238 (by decide) ?_
                        have hE : lStep (m_now M) e (mo2, L2) = (1, up L2 ((m_now M) (62 + 27 * e + 1)) (bO (L2 ((m_now M) (62 + 27 * e + 1))) (nCarry ((m_now M)) e 0 (L2 ((m_now M) (62 + 27 * e + 0)))))) := by
                          unfold lStep
                          exact (if_pos hc15).trans (Prod.ext (if_pos (show mo2 ≠ 0 ∨ bO (L2 (m_now M (62 + 27 * e + 1))) (nCarry (m_now M) e 0 (L2 (m_now M (62 + 27 * e + 0)))) ≠ L2 (m_now M (62 + 27 * e + 1)) by omega)) rfl)
                        have hS := lI9_step hN hWf ⟨he, (by omega)⟩ hLo0 hI
                        rw [hE] at hS
                        exact ih48 (e + 1) 1 (up L2 ((m_now M) (62 + 27 * e + 1)) (bO (L2 ((m_now M) (62 + 27 * e + 1))) (nCarry ((m_now M)) e 0 (L2 ((m_now M) (62 + 27 * e + 0)))))) (by omega) (by omega) hS hS.1 (by rw [hq2, it_s, hE]) _ _ ls hW (lv_sub hl [6, 1, 0] rfl)
                      · skip
                        refine r_iload C dX5_loosens_208 hl 0 rfl ?_
                        refine r_aload_n C dX5_loosens_210 hl 4 rfl ?_
                        refine r_get (v := .ref (ad 13)) C f_X5_49 hW.1 0 rfl rfl dX5_loosens_211 ?_
                        refine r_iload C dX5_loosens_214 hl 2 rfl ?_
                        refine r_iald (f := L2) C hW.1 14 rfl (Nat.le_of_ble_eq_true rfl) (by omega) dX5_loosens_216 ?_
                        refine r_icmp_eq C 224 dX5_loosens_217 (by decide) (by omega) (by omega) (fun hc17 => ?_) (fun hc17 => ?_)
                        · skip
                          refine r_iconst (z := 0) C dX5_loosens_224 rfl ?_
                          refine r_istore_n C [(1, .int (iI (0))), (6, .int (iI (bO (L2 ((m_now M) (62 + 27 * e + 1))) (nCarry ((m_now M)) e 0 (L2 ((m_now M) (62 + 27 * e + 0))))))), (5, .int (iI ((m_now M) (62 + 27 * e + 2)))), (4, .int (iI ((m_now M) (62 + 27 * e + 1)))), (3, .int (iI ((m_now M) (62 + 27 * e + 0)))), (0, .ref (o)), (2, .int (iI (e)))] dX5_loosens_225 hl (by decide) rfl (fun ls hl => ?_)
                          refine r_aload_n C dX5_loosens_226 hl 5 rfl ?_
                          refine r_get (v := .ref (ad 13)) C f_X5_49 hW.1 0 rfl rfl dX5_loosens_227 ?_
                          refine r_iload C dX5_loosens_230 hl 3 rfl ?_
                          refine r_iload C dX5_loosens_232 hl 1 rfl ?_
                          refine r_iast (f := L2) C hW (mF g o ad (m_refused M) (m_now M) (m_kept M) (m_states M) (m_place M) (m_startFact M) (m_node M) (m_fact M) (m_ahead M) (m_inside M) (m_entries M) (m_caller M) (m_following M) (m_firstCaller M) (m_lastCaller M) (m_callers M) (m_known M) (up L2 ((m_now M) (62 + 27 * e + 1)) (bO (L2 ((m_now M) (62 + 27 * e + 1))) (nCarry ((m_now M)) e 0 (L2 ((m_now M) (62 + 27 * e + 0)))))) (m_stack M) (m_high M) (m_pairs M) (m_told M) (m_text M) (m_typed M) (m_orders M) (m_written M) (m_look M)) 14 rfl (Nat.le_of_ble_eq_true rfl) (by omega) rfl dX5_loosens_234 (fun H locs hW => ?_)
                          refine r_iinc (v := e + 1) C [(2, .int (iI (e + 1))), (1, .int (iI (0))), (6, .int (iI (bO (L2 ((m_now M) (62 + 27 * e + 1))) (nCarry ((m_now M)) e 0 (L2 ((m_now M) (62 + 27 * e + 0))))))), (5, .int (iI ((m_now M) (62 + 27 * e + 2)))), (4, .int (iI ((m_now M) (62 + 27 * e + 1)))), (3, .int (iI ((m_now M) (62 + 27 * e + 0)))), (0, .ref (o))] dX5_loosens_235 hl 6 rfl (by decide) (by omega) rfl (fun ls hl => ?_)
                          refine r_goto C 48 dX5_loosens_238 (by decide) ?_
                          have hE : lStep (m_now M) e (mo2, L2) = (0, up L2 ((m_now M) (62 + 27 * e + 1)) (bO (L2 ((m_now M) (62 + 27 * e + 1))) (nCarry ((m_now M)) e 0 (L2 ((m_now M) (62 + 27 * e + 0)))))) := by
                            unfold lStep
                            exact (if_pos hc15).trans (Prod.ext (if_neg (show ¬ (mo2 ≠ 0 ∨ bO (L2 (m_now M (62 + 27 * e + 1))) (nCarry (m_now M) e 0 (L2 (m_now M (62 + 27 * e + 0)))) ≠ L2 (m_now M (62 + 27 * e + 1))) by omega)) rfl)
                          have hS := lI9_step hN hWf ⟨he, (by omega)⟩ hLo0 hI
                          rw [hE] at hS
                          exact ih48 (e + 1) 0 (up L2 ((m_now M) (62 + 27 * e + 1)) (bO (L2 ((m_now M) (62 + 27 * e + 1))) (nCarry ((m_now M)) e 0 (L2 ((m_now M) (62 + 27 * e + 0)))))) (by omega) (by omega) hS hS.1 (by rw [hq2, it_s, hE]) _ _ ls hW (lv_sub hl [6, 1, 0] rfl)
                        · skip
                          refine r_iconst (z := 1) C dX5_loosens_220 rfl ?_
                          refine r_goto C 225 dX5_loosens_221 (by decide) ?_
                          refine r_istore_n C [(1, .int (iI (1))), (6, .int (iI (bO (L2 ((m_now M) (62 + 27 * e + 1))) (nCarry ((m_now M)) e 0 (L2 ((m_now M) (62 + 27 * e + 0))))))), (5, .int (iI ((m_now M) (62 + 27 * e + 2)))), (4, .int (iI ((m_now M) (62 + 27 * e + 1)))), (3, .int (iI ((m_now M) (62 + 27 * e + 0)))), (0, .ref (o)), (2, .int (iI (e)))] dX5_loosens_225 hl (by decide) rfl (fun ls hl => ?_)
                          refine r_aload_n C dX5_loosens_226 hl 5 rfl ?_
                          refine r_get (v := .ref (ad 13)) C f_X5_49 hW.1 0 rfl rfl dX5_loosens_227 ?_
                          refine r_iload C dX5_loosens_230 hl 3 rfl ?_
                          refine r_iload C dX5_loosens_232 hl 1 rfl ?_
                          refine r_iast (f := L2) C hW (mF g o ad (m_refused M) (m_now M) (m_kept M) (m_states M) (m_place M) (m_startFact M) (m_node M) (m_fact M) (m_ahead M) (m_inside M) (m_entries M) (m_caller M) (m_following M) (m_firstCaller M) (m_lastCaller M) (m_callers M) (m_known M) (up L2 ((m_now M) (62 + 27 * e + 1)) (bO (L2 ((m_now M) (62 + 27 * e + 1))) (nCarry ((m_now M)) e 0 (L2 ((m_now M) (62 + 27 * e + 0)))))) (m_stack M) (m_high M) (m_pairs M) (m_told M) (m_text M) (m_typed M) (m_orders M) (m_written M) (m_look M)) 14 rfl (Nat.le_of_ble_eq_true rfl) (by omega) rfl dX5_loosens_234 (fun H locs hW => ?_)
                          refine r_iinc (v := e + 1) C [(2, .int (iI (e + 1))), (1, .int (iI (1))), (6, .int (iI (bO (L2 ((m_now M) (62 + 27 * e + 1))) (nCarry ((m_now M)) e 0 (L2 ((m_now M) (62 + 27 * e + 0))))))), (5, .int (iI ((m_now M) (62 + 27 * e + 2)))), (4, .int (iI ((m_now M) (62 + 27 * e + 1)))), (3, .int (iI ((m_now M) (62 + 27 * e + 0)))), (0, .ref (o))] dX5_loosens_235 hl 6 rfl (by decide) (by omega) rfl (fun ls hl => ?_)
                          refine r_goto C 48 dX5_loosens_238 (by decide) ?_
                          have hE : lStep (m_now M) e (mo2, L2) = (1, up L2 ((m_now M) (62 + 27 * e + 1)) (bO (L2 ((m_now M) (62 + 27 * e + 1))) (nCarry ((m_now M)) e 0 (L2 ((m_now M) (62 + 27 * e + 0)))))) := by
                            unfold lStep
                            exact (if_pos hc15).trans (Prod.ext (if_pos (show mo2 ≠ 0 ∨ bO (L2 (m_now M (62 + 27 * e + 1))) (nCarry (m_now M) e 0 (L2 (m_now M (62 + 27 * e + 0)))) ≠ L2 (m_now M (62 + 27 * e + 1)) by omega)) rfl)
                          have hS := lI9_step hN hWf ⟨he, (by omega)⟩ hLo0 hI
                          rw [hE] at hS
                          exact ih48 (e + 1) 1 (up L2 ((m_now M) (62 + 27 * e + 1)) (bO (L2 ((m_now M) (62 + 27 * e + 1))) (nCarry ((m_now M)) e 0 (L2 ((m_now M) (62 + 27 * e + 0)))))) (by omega) (by omega) hS hS.1 (by rw [hq2, it_s, hE]) _ _ ls hW (lv_sub hl [6, 1, 0] rfl)
                    · skip
                      refine r_iload C dX5_loosens_109 hl 0 rfl ?_
                      refine r_aload_n C dX5_loosens_111 hl 4 rfl ?_
                      refine r_iload_n C dX5_loosens_112 hl 6 rfl ?_
                      refine r_iconst (z := 2) C dX5_loosens_113 rfl ?_
                      refine r_aload_n C dX5_loosens_114 hl 4 rfl ?_
                      refine r_get (v := .ref (ad 13)) C f_X5_49 hW.1 0 rfl rfl dX5_loosens_115 ?_
                      refine r_aload_n C dX5_loosens_118 hl 4 rfl ?_
                      refine r_get (v := .ref (ad 1)) C f_X5_13 hW.1 0 rfl rfl dX5_loosens_119 ?_
                      refine r_iconst (z := 4) C dX5_loosens_122 rfl ?_
                      refine r_iconst (z := 2) C dX5_loosens_123 rfl ?_
                      refine r_iload C dX5_loosens_124 hl 1 rfl ?_
                      refine r_imul C dX5_loosens_126 ?_
                      refine r_iadd C dX5_loosens_127 ?_
                      refine r_iconst (z := 1) C dX5_loosens_128 rfl ?_
                      refine r_iadd C dX5_loosens_129 ?_
                      refine r_iald (f := m_now M) C hW.1 2 rfl (Nat.le_of_ble_eq_true rfl) (by omega) dX5_loosens_130 ?_
                      have hr18 := nEnd_q (m_now M) ((4 + (2 * ((m_now M) (62 + 27 * e + 2)))) + 1) hN (by omega)
                      have hl2 := hLo (m_now M (4 + 2 * m_now M (62 + 27 * e + 2) + 1)) (by omega) (by omega)
                      refine r_iald (f := L2) C hW.1 14 rfl (Nat.le_of_ble_eq_true rfl) (by omega) dX5_loosens_131 ?_
                      refine r_callR (rest := [.int (iI (bO (L2 ((m_now M) (62 + 27 * e + 1))) (nCarry ((m_now M)) e 0 (L2 ((m_now M) (62 + 27 * e + 0))))))]) (r := .int (iI (nCarry ((m_now M)) e 2 (L2 (m_now M ((4 + (2 * ((m_now M) (62 + 27 * e + 2)))) + 1)))))) C hl.1 (c_X5_carried l g o ad (m_refused M) (m_now M) (m_kept M) (m_states M) (m_place M) (m_startFact M) (m_node M) (m_fact M) (m_ahead M) (m_inside M) (m_entries M) (m_caller M) (m_following M) (m_firstCaller M) (m_lastCaller M) (m_callers M) (m_known M) L2 (m_stack M) (m_high M) (m_pairs M) (m_told M) (m_text M) (m_typed M) (m_orders M) (m_written M) (m_look M) e 2 (L2 (m_now M ((4 + (2 * ((m_now M) (62 + 27 * e + 2)))) + 1))) (by assumption) (show 0 ≤ e ∧ e < 32 by omega) (show 0 ≤ 2 ∧ 2 < 3 by omega) (show 0 ≤ (L2 (m_now M ((4 + (2 * ((m_now M) (62 + 27 * e + 2)))) + 1))) ∧ (L2 (m_now M ((4 + (2 * ((m_now M) (62 + 27 * e + 2)))) + 1))) < 256 by omega)) v_X5_200 rfl hW.1 0 rfl rfl rfl (by decide) (by decide) (Nat.le_of_ble_eq_true rfl) dX5_loosens_132 rfl ?_
                      have hc2 := nCarry_q (m_now M) e 2 (L2 (m_now M (4 + 2 * m_now M (62 + 27 * e + 2) + 1))) hN (by omega) (by omega)
                      refine r_ior C (by omega) (by omega) dX5_loosens_135 ?_
                      have hb19 := bO_0 (bO (L2 ((m_now M) (62 + 27 * e + 1))) (nCarry ((m_now M)) e 0 (L2 ((m_now M) (62 + 27 * e + 0))))) (nCarry ((m_now M)) e 2 (L2 (m_now M ((4 + (2 * ((m_now M) (62 + 27 * e + 2)))) + 1))))
                      have hb20 : bO (bO (L2 ((m_now M) (62 + 27 * e + 1))) (nCarry ((m_now M)) e 0 (L2 ((m_now M) (62 + 27 * e + 0))))) (nCarry ((m_now M)) e 2 (L2 (m_now M ((4 + (2 * ((m_now M) (62 + 27 * e + 2)))) + 1)))) < 256 := bO_8 (by omega) (by omega)
                      refine r_istore C [(6, .int (iI (bO (bO (L2 ((m_now M) (62 + 27 * e + 1))) (nCarry ((m_now M)) e 0 (L2 ((m_now M) (62 + 27 * e + 0))))) (nCarry ((m_now M)) e 2 (L2 (m_now M ((4 + (2 * ((m_now M) (62 + 27 * e + 2)))) + 1))))))), (5, .int (iI ((m_now M) (62 + 27 * e + 2)))), (4, .int (iI ((m_now M) (62 + 27 * e + 1)))), (3, .int (iI ((m_now M) (62 + 27 * e + 0)))), (0, .ref (o)), (1, .int (iI (mo2))), (2, .int (iI (e)))] dX5_loosens_136 hl (by decide) rfl (fun ls hl => ?_)
                      refine r_aload_n C dX5_loosens_138 hl 4 rfl ?_
                      refine r_get (v := .ref (ad 1)) C f_X5_13 hW.1 0 rfl rfl dX5_loosens_139 ?_
                      refine r_iconst (z := 4) C dX5_loosens_142 rfl ?_
                      refine r_iconst (z := 2) C dX5_loosens_143 rfl ?_
                      refine r_iload C dX5_loosens_144 hl 1 rfl ?_
                      refine r_imul C dX5_loosens_146 ?_
                      refine r_iadd C dX5_loosens_147 ?_
                      refine r_iald (f := m_now M) C hW.1 2 rfl (Nat.le_of_ble_eq_true rfl) (by omega) dX5_loosens_148 ?_
                      have hr21 := nEnd_q (m_now M) (4 + (2 * ((m_now M) (62 + 27 * e + 2)))) hN (by omega)
                      refine r_istore C [(7, .int (iI (m_now M (4 + (2 * ((m_now M) (62 + 27 * e + 2))))))), (6, .int (iI (bO (bO (L2 ((m_now M) (62 + 27 * e + 1))) (nCarry ((m_now M)) e 0 (L2 ((m_now M) (62 + 27 * e + 0))))) (nCarry ((m_now M)) e 2 (L2 (m_now M ((4 + (2 * ((m_now M) (62 + 27 * e + 2)))) + 1))))))), (5, .int (iI ((m_now M) (62 + 27 * e + 2)))), (4, .int (iI ((m_now M) (62 + 27 * e + 1)))), (3, .int (iI ((m_now M) (62 + 27 * e + 0)))), (0, .ref (o)), (1, .int (iI (mo2))), (2, .int (iI (e)))] dX5_loosens_149 hl (by decide) rfl (fun ls hl => ?_)
                      refine r_aload_n C dX5_loosens_151 hl 5 rfl ?_
                      refine r_get (v := .ref (ad 13)) C f_X5_49 hW.1 0 rfl rfl dX5_loosens_152 ?_
                      refine r_iload C dX5_loosens_155 hl 0 rfl ?_
                      have hl3 := hLo (m_now M (4 + 2 * m_now M (62 + 27 * e + 2))) (by omega) (by omega)
                      refine r_iald (f := L2) C hW.1 14 rfl (Nat.le_of_ble_eq_true rfl) (by omega) dX5_loosens_157 ?_
                      refine r_aload_n C dX5_loosens_158 hl 5 rfl ?_
                      refine r_iload_n C dX5_loosens_159 hl 7 rfl ?_
                      refine r_iconst (z := 1) C dX5_loosens_160 rfl ?_
                      refine r_aload_n C dX5_loosens_161 hl 5 rfl ?_
                      refine r_get (v := .ref (ad 13)) C f_X5_49 hW.1 0 rfl rfl dX5_loosens_162 ?_
                      refine r_iload_n C dX5_loosens_165 hl 4 rfl ?_
                      refine r_iald (f := L2) C hW.1 14 rfl (Nat.le_of_ble_eq_true rfl) (by omega) dX5_loosens_166 ?_
                      refine r_callR (rest := [.int (iI (L2 (m_now M (4 + (2 * ((m_now M) (62 + 27 * e + 2)))))))]) (r := .int (iI (nCarry ((m_now M)) e 1 (L2 ((m_now M) (62 + 27 * e + 0)))))) C hl.1 (c_X5_carried l g o ad (m_refused M) (m_now M) (m_kept M) (m_states M) (m_place M) (m_startFact M) (m_node M) (m_fact M) (m_ahead M) (m_inside M) (m_entries M) (m_caller M) (m_following M) (m_firstCaller M) (m_lastCaller M) (m_callers M) (m_known M) L2 (m_stack M) (m_high M) (m_pairs M) (m_told M) (m_text M) (m_typed M) (m_orders M) (m_written M) (m_look M) e 1 (L2 ((m_now M) (62 + 27 * e + 0))) (by assumption) (show 0 ≤ e ∧ e < 32 by omega) (show 0 ≤ 1 ∧ 1 < 3 by omega) (show 0 ≤ (L2 ((m_now M) (62 + 27 * e + 0))) ∧ (L2 ((m_now M) (62 + 27 * e + 0))) < 256 by omega)) v_X5_200 rfl hW.1 0 rfl rfl rfl (by decide) (by decide) (Nat.le_of_ble_eq_true rfl) dX5_loosens_167 rfl ?_
                      have hc1 := nCarry_q (m_now M) e 1 (L2 (m_now M (62 + 27 * e + 0))) hN (by omega) (by omega)
                      refine r_ior C (by omega) (by omega) dX5_loosens_170 ?_
                      have hb22 := bO_0 (L2 (m_now M (4 + (2 * ((m_now M) (62 + 27 * e + 2)))))) (nCarry ((m_now M)) e 1 (L2 ((m_now M) (62 + 27 * e + 0))))
                      have hb23 : bO (L2 (m_now M (4 + (2 * ((m_now M) (62 + 27 * e + 2)))))) (nCarry ((m_now M)) e 1 (L2 ((m_now M) (62 + 27 * e + 0)))) < 256 := bO_8 (by omega) (by omega)
                      refine r_istore C [(8, .int (iI (bO (L2 (m_now M (4 + (2 * ((m_now M) (62 + 27 * e + 2)))))) (nCarry ((m_now M)) e 1 (L2 ((m_now M) (62 + 27 * e + 0))))))), (7, .int (iI (m_now M (4 + (2 * ((m_now M) (62 + 27 * e + 2))))))), (6, .int (iI (bO (bO (L2 ((m_now M) (62 + 27 * e + 1))) (nCarry ((m_now M)) e 0 (L2 ((m_now M) (62 + 27 * e + 0))))) (nCarry ((m_now M)) e 2 (L2 (m_now M ((4 + (2 * ((m_now M) (62 + 27 * e + 2)))) + 1))))))), (5, .int (iI ((m_now M) (62 + 27 * e + 2)))), (4, .int (iI ((m_now M) (62 + 27 * e + 1)))), (3, .int (iI ((m_now M) (62 + 27 * e + 0)))), (0, .ref (o)), (1, .int (iI (mo2))), (2, .int (iI (e)))] dX5_loosens_171 hl (by decide) rfl (fun ls hl => ?_)
                      refine r_iload_n C dX5_loosens_173 hl 7 rfl ?_
                      refine r_if_ne C 189 dX5_loosens_174 (by decide) (by omega) (fun hc24 => ?_) (fun hc24 => ?_)
                      · skip
                        refine r_iconst (z := 1) C dX5_loosens_189 rfl ?_
                        refine r_goto C 194 dX5_loosens_190 (by decide) ?_
                        refine r_istore_n C [(1, .int (iI (1))), (8, .int (iI (bO (L2 (m_now M (4 + (2 * ((m_now M) (62 + 27 * e + 2)))))) (nCarry ((m_now M)) e 1 (L2 ((m_now M) (62 + 27 * e + 0))))))), (7, .int (iI (m_now M (4 + (2 * ((m_now M) (62 + 27 * e + 2))))))), (6, .int (iI (bO (bO (L2 ((m_now M) (62 + 27 * e + 1))) (nCarry ((m_now M)) e 0 (L2 ((m_now M) (62 + 27 * e + 0))))) (nCarry ((m_now M)) e 2 (L2 (m_now M ((4 + (2 * ((m_now M) (62 + 27 * e + 2)))) + 1))))))), (5, .int (iI ((m_now M) (62 + 27 * e + 2)))), (4, .int (iI ((m_now M) (62 + 27 * e + 1)))), (3, .int (iI ((m_now M) (62 + 27 * e + 0)))), (0, .ref (o)), (2, .int (iI (e)))] dX5_loosens_194 hl (by decide) rfl (fun ls hl => ?_)
                        refine r_aload_n C dX5_loosens_195 hl 7 rfl ?_
                        refine r_get (v := .ref (ad 13)) C f_X5_49 hW.1 0 rfl rfl dX5_loosens_196 ?_
                        refine r_iload C dX5_loosens_199 hl 2 rfl ?_
                        refine r_iload C dX5_loosens_201 hl 1 rfl ?_
                        refine r_iast (f := L2) C hW (mF g o ad (m_refused M) (m_now M) (m_kept M) (m_states M) (m_place M) (m_startFact M) (m_node M) (m_fact M) (m_ahead M) (m_inside M) (m_entries M) (m_caller M) (m_following M) (m_firstCaller M) (m_lastCaller M) (m_callers M) (m_known M) (up L2 (m_now M (4 + (2 * ((m_now M) (62 + 27 * e + 2))))) (bO (L2 (m_now M (4 + (2 * ((m_now M) (62 + 27 * e + 2)))))) (nCarry ((m_now M)) e 1 (L2 ((m_now M) (62 + 27 * e + 0)))))) (m_stack M) (m_high M) (m_pairs M) (m_told M) (m_text M) (m_typed M) (m_orders M) (m_written M) (m_look M)) 14 rfl (Nat.le_of_ble_eq_true rfl) (by omega) rfl dX5_loosens_203 (fun H locs hW => ?_)
                        refine r_iload_n C dX5_loosens_204 hl 0 rfl ?_
                        refine r_if_ne C 220 dX5_loosens_205 (by decide) (by omega) (fun hc25 => ?_) (fun hc25 => ?_)
                        · skip
                          refine r_iconst (z := 1) C dX5_loosens_220 rfl ?_
                          refine r_goto C 225 dX5_loosens_221 (by decide) ?_
                          refine r_istore_n C [(1, .int (iI (1))), (8, .int (iI (bO (L2 (m_now M (4 + (2 * ((m_now M) (62 + 27 * e + 2)))))) (nCarry ((m_now M)) e 1 (L2 ((m_now M) (62 + 27 * e + 0))))))), (7, .int (iI (m_now M (4 + (2 * ((m_now M) (62 + 27 * e + 2))))))), (6, .int (iI (bO (bO (L2 ((m_now M) (62 + 27 * e + 1))) (nCarry ((m_now M)) e 0 (L2 ((m_now M) (62 + 27 * e + 0))))) (nCarry ((m_now M)) e 2 (L2 (m_now M ((4 + (2 * ((m_now M) (62 + 27 * e + 2)))) + 1))))))), (5, .int (iI ((m_now M) (62 + 27 * e + 2)))), (4, .int (iI ((m_now M) (62 + 27 * e + 1)))), (3, .int (iI ((m_now M) (62 + 27 * e + 0)))), (0, .ref (o)), (2, .int (iI (e)))] dX5_loosens_225 hl (by decide) rfl (fun ls hl => ?_)
                          refine r_aload_n C dX5_loosens_226 hl 7 rfl ?_
                          refine r_get (v := .ref (ad 13)) C f_X5_49 hW.1 0 rfl rfl dX5_loosens_227 ?_
                          refine r_iload C dX5_loosens_230 hl 5 rfl ?_
                          refine r_iload C dX5_loosens_232 hl 3 rfl ?_
                          refine r_iast (f := up L2 (m_now M (4 + (2 * ((m_now M) (62 + 27 * e + 2))))) (bO (L2 (m_now M (4 + (2 * ((m_now M) (62 + 27 * e + 2)))))) (nCarry ((m_now M)) e 1 (L2 ((m_now M) (62 + 27 * e + 0)))))) C hW (mF g o ad (m_refused M) (m_now M) (m_kept M) (m_states M) (m_place M) (m_startFact M) (m_node M) (m_fact M) (m_ahead M) (m_inside M) (m_entries M) (m_caller M) (m_following M) (m_firstCaller M) (m_lastCaller M) (m_callers M) (m_known M) (up (up L2 (m_now M (4 + (2 * ((m_now M) (62 + 27 * e + 2))))) (bO (L2 (m_now M (4 + (2 * ((m_now M) (62 + 27 * e + 2)))))) (nCarry ((m_now M)) e 1 (L2 ((m_now M) (62 + 27 * e + 0)))))) ((m_now M) (62 + 27 * e + 1)) (bO (bO (L2 ((m_now M) (62 + 27 * e + 1))) (nCarry ((m_now M)) e 0 (L2 ((m_now M) (62 + 27 * e + 0))))) (nCarry ((m_now M)) e 2 (L2 (m_now M ((4 + (2 * ((m_now M) (62 + 27 * e + 2)))) + 1)))))) (m_stack M) (m_high M) (m_pairs M) (m_told M) (m_text M) (m_typed M) (m_orders M) (m_written M) (m_look M)) 14 rfl (Nat.le_of_ble_eq_true rfl) (by omega) rfl dX5_loosens_234 (fun H locs hW => ?_)
                          refine r_iinc (v := e + 1) C [(2, .int (iI (e + 1))), (1, .int (iI (1))), (8, .int (iI (bO (L2 (m_now M (4 + (2 * ((m_now M) (62 + 27 * e + 2)))))) (nCarry ((m_now M)) e 1 (L2 ((m_now M) (62 + 27 * e + 0))))))), (7, .int (iI (m_now M (4 + (2 * ((m_now M) (62 + 27 * e + 2))))))), (6, .int (iI (bO (bO (L2 ((m_now M) (62 + 27 * e + 1))) (nCarry ((m_now M)) e 0 (L2 ((m_now M) (62 + 27 * e + 0))))) (nCarry ((m_now M)) e 2 (L2 (m_now M ((4 + (2 * ((m_now M) (62 + 27 * e + 2)))) + 1))))))), (5, .int (iI ((m_now M) (62 + 27 * e + 2)))), (4, .int (iI ((m_now M) (62 + 27 * e + 1)))), (3, .int (iI ((m_now M) (62 + 27 * e + 0)))), (0, .ref (o))] dX5_loosens_235 hl 8 rfl (by decide) (by omega) rfl (fun ls hl => ?_)
                          refine r_goto C 48 dX5_loosens_238 (by decide) ?_
                          have hE : lStep (m_now M) e (mo2, L2) = (1, up (up L2 (m_now M (4 + (2 * ((m_now M) (62 + 27 * e + 2))))) (bO (L2 (m_now M (4 + (2 * ((m_now M) (62 + 27 * e + 2)))))) (nCarry ((m_now M)) e 1 (L2 ((m_now M) (62 + 27 * e + 0)))))) ((m_now M) (62 + 27 * e + 1)) (bO (bO (L2 ((m_now M) (62 + 27 * e + 1))) (nCarry ((m_now M)) e 0 (L2 ((m_now M) (62 + 27 * e + 0))))) (nCarry ((m_now M)) e 2 (L2 (m_now M ((4 + (2 * ((m_now M) (62 + 27 * e + 2)))) + 1)))))) := by
                            unfold lStep
                            exact (if_neg hc15).trans (Prod.ext (if_pos (show (mo2 ≠ 0 ∨ bO (L2 (m_now M (4 + 2 * m_now M (62 + 27 * e + 2)))) (nCarry (m_now M) e 1 (L2 (m_now M (62 + 27 * e + 0)))) ≠ L2 (m_now M (4 + 2 * m_now M (62 + 27 * e + 2)))) ∨ bO (bO (L2 (m_now M (62 + 27 * e + 1))) (nCarry (m_now M) e 0 (L2 (m_now M (62 + 27 * e + 0))))) (nCarry (m_now M) e 2 (L2 (m_now M (4 + 2 * m_now M (62 + 27 * e + 2) + 1)))) ≠ up L2 (m_now M (4 + 2 * m_now M (62 + 27 * e + 2))) (bO (L2 (m_now M (4 + 2 * m_now M (62 + 27 * e + 2)))) (nCarry (m_now M) e 1 (L2 (m_now M (62 + 27 * e + 0))))) (m_now M (62 + 27 * e + 1)) by omega)) rfl)
                          have hS := lI9_step hN hWf ⟨he, (by omega)⟩ hLo0 hI
                          rw [hE] at hS
                          exact ih48 (e + 1) 1 (up (up L2 (m_now M (4 + (2 * ((m_now M) (62 + 27 * e + 2))))) (bO (L2 (m_now M (4 + (2 * ((m_now M) (62 + 27 * e + 2)))))) (nCarry ((m_now M)) e 1 (L2 ((m_now M) (62 + 27 * e + 0)))))) ((m_now M) (62 + 27 * e + 1)) (bO (bO (L2 ((m_now M) (62 + 27 * e + 1))) (nCarry ((m_now M)) e 0 (L2 ((m_now M) (62 + 27 * e + 0))))) (nCarry ((m_now M)) e 2 (L2 (m_now M ((4 + (2 * ((m_now M) (62 + 27 * e + 2)))) + 1)))))) (by omega) (by omega) hS hS.1 (by rw [hq2, it_s, hE]) _ _ ls hW (lv_sub hl [8, 1, 0] rfl)
                        · exact absurd hc25 (by omega)
                      · skip
                        refine r_iload C dX5_loosens_177 hl 0 rfl ?_
                        refine r_aload_n C dX5_loosens_179 hl 6 rfl ?_
                        refine r_get (v := .ref (ad 13)) C f_X5_49 hW.1 0 rfl rfl dX5_loosens_180 ?_
                        refine r_iload C dX5_loosens_183 hl 1 rfl ?_
                        refine r_iald (f := L2) C hW.1 14 rfl (Nat.le_of_ble_eq_true rfl) (by omega) dX5_loosens_185 ?_
                        refine r_icmp_eq C 193 dX5_loosens_186 (by decide) (by omega) (by omega) (fun hc26 => ?_) (fun hc26 => ?_)
                        · skip
                          refine r_iconst (z := 0) C dX5_loosens_193 rfl ?_
                          refine r_istore_n C [(1, .int (iI (0))), (8, .int (iI (bO (L2 (m_now M (4 + (2 * ((m_now M) (62 + 27 * e + 2)))))) (nCarry ((m_now M)) e 1 (L2 ((m_now M) (62 + 27 * e + 0))))))), (7, .int (iI (m_now M (4 + (2 * ((m_now M) (62 + 27 * e + 2))))))), (6, .int (iI (bO (bO (L2 ((m_now M) (62 + 27 * e + 1))) (nCarry ((m_now M)) e 0 (L2 ((m_now M) (62 + 27 * e + 0))))) (nCarry ((m_now M)) e 2 (L2 (m_now M ((4 + (2 * ((m_now M) (62 + 27 * e + 2)))) + 1))))))), (5, .int (iI ((m_now M) (62 + 27 * e + 2)))), (4, .int (iI ((m_now M) (62 + 27 * e + 1)))), (3, .int (iI ((m_now M) (62 + 27 * e + 0)))), (0, .ref (o)), (2, .int (iI (e)))] dX5_loosens_194 hl (by decide) rfl (fun ls hl => ?_)
                          refine r_aload_n C dX5_loosens_195 hl 7 rfl ?_
                          refine r_get (v := .ref (ad 13)) C f_X5_49 hW.1 0 rfl rfl dX5_loosens_196 ?_
                          refine r_iload C dX5_loosens_199 hl 2 rfl ?_
                          refine r_iload C dX5_loosens_201 hl 1 rfl ?_
                          refine r_iast (f := L2) C hW (mF g o ad (m_refused M) (m_now M) (m_kept M) (m_states M) (m_place M) (m_startFact M) (m_node M) (m_fact M) (m_ahead M) (m_inside M) (m_entries M) (m_caller M) (m_following M) (m_firstCaller M) (m_lastCaller M) (m_callers M) (m_known M) (up L2 (m_now M (4 + (2 * ((m_now M) (62 + 27 * e + 2))))) (bO (L2 (m_now M (4 + (2 * ((m_now M) (62 + 27 * e + 2)))))) (nCarry ((m_now M)) e 1 (L2 ((m_now M) (62 + 27 * e + 0)))))) (m_stack M) (m_high M) (m_pairs M) (m_told M) (m_text M) (m_typed M) (m_orders M) (m_written M) (m_look M)) 14 rfl (Nat.le_of_ble_eq_true rfl) (by omega) rfl dX5_loosens_203 (fun H locs hW => ?_)
                          refine r_iload_n C dX5_loosens_204 hl 0 rfl ?_
                          refine r_if_ne C 220 dX5_loosens_205 (by decide) (by omega) (fun hc27 => ?_) (fun hc27 => ?_)
                          · exact absurd hc27 (by omega)
                          · skip
                            refine r_iload C dX5_loosens_208 hl 3 rfl ?_
                            refine r_aload_n C dX5_loosens_210 hl 7 rfl ?_
                            refine r_get (v := .ref (ad 13)) C f_X5_49 hW.1 0 rfl rfl dX5_loosens_211 ?_
                            refine r_iload C dX5_loosens_214 hl 5 rfl ?_
                            refine r_iald (f := up L2 (m_now M (4 + (2 * ((m_now M) (62 + 27 * e + 2))))) (bO (L2 (m_now M (4 + (2 * ((m_now M) (62 + 27 * e + 2)))))) (nCarry ((m_now M)) e 1 (L2 ((m_now M) (62 + 27 * e + 0)))))) C hW.1 14 rfl (Nat.le_of_ble_eq_true rfl) (by omega) dX5_loosens_216 ?_
                            have hlu := (lOk_up (i := m_now M (4 + 2 * m_now M (62 + 27 * e + 2))) (v := bO (L2 (m_now M (4 + 2 * m_now M (62 + 27 * e + 2)))) (nCarry (m_now M) e 1 (L2 (m_now M (62 + 27 * e + 0))))) hLo (by omega)) (m_now M (62 + 27 * e + 1)) (by omega) (by omega)
                            refine r_icmp_eq C 224 dX5_loosens_217 (by decide) (by omega) (by omega) (fun hc28 => ?_) (fun hc28 => ?_)
                            · skip
                              refine r_iconst (z := 0) C dX5_loosens_224 rfl ?_
                              refine r_istore_n C [(1, .int (iI (0))), (8, .int (iI (bO (L2 (m_now M (4 + (2 * ((m_now M) (62 + 27 * e + 2)))))) (nCarry ((m_now M)) e 1 (L2 ((m_now M) (62 + 27 * e + 0))))))), (7, .int (iI (m_now M (4 + (2 * ((m_now M) (62 + 27 * e + 2))))))), (6, .int (iI (bO (bO (L2 ((m_now M) (62 + 27 * e + 1))) (nCarry ((m_now M)) e 0 (L2 ((m_now M) (62 + 27 * e + 0))))) (nCarry ((m_now M)) e 2 (L2 (m_now M ((4 + (2 * ((m_now M) (62 + 27 * e + 2)))) + 1))))))), (5, .int (iI ((m_now M) (62 + 27 * e + 2)))), (4, .int (iI ((m_now M) (62 + 27 * e + 1)))), (3, .int (iI ((m_now M) (62 + 27 * e + 0)))), (0, .ref (o)), (2, .int (iI (e)))] dX5_loosens_225 hl (by decide) rfl (fun ls hl => ?_)
                              refine r_aload_n C dX5_loosens_226 hl 7 rfl ?_
                              refine r_get (v := .ref (ad 13)) C f_X5_49 hW.1 0 rfl rfl dX5_loosens_227 ?_
                              refine r_iload C dX5_loosens_230 hl 5 rfl ?_
                              refine r_iload C dX5_loosens_232 hl 3 rfl ?_
                              refine r_iast (f := up L2 (m_now M (4 + (2 * ((m_now M) (62 + 27 * e + 2))))) (bO (L2 (m_now M (4 + (2 * ((m_now M) (62 + 27 * e + 2)))))) (nCarry ((m_now M)) e 1 (L2 ((m_now M) (62 + 27 * e + 0)))))) C hW (mF g o ad (m_refused M) (m_now M) (m_kept M) (m_states M) (m_place M) (m_startFact M) (m_node M) (m_fact M) (m_ahead M) (m_inside M) (m_entries M) (m_caller M) (m_following M) (m_firstCaller M) (m_lastCaller M) (m_callers M) (m_known M) (up (up L2 (m_now M (4 + (2 * ((m_now M) (62 + 27 * e + 2))))) (bO (L2 (m_now M (4 + (2 * ((m_now M) (62 + 27 * e + 2)))))) (nCarry ((m_now M)) e 1 (L2 ((m_now M) (62 + 27 * e + 0)))))) ((m_now M) (62 + 27 * e + 1)) (bO (bO (L2 ((m_now M) (62 + 27 * e + 1))) (nCarry ((m_now M)) e 0 (L2 ((m_now M) (62 + 27 * e + 0))))) (nCarry ((m_now M)) e 2 (L2 (m_now M ((4 + (2 * ((m_now M) (62 + 27 * e + 2)))) + 1)))))) (m_stack M) (m_high M) (m_pairs M) (m_told M) (m_text M) (m_typed M) (m_orders M) (m_written M) (m_look M)) 14 rfl (Nat.le_of_ble_eq_true rfl) (by omega) rfl dX5_loosens_234 (fun H locs hW => ?_)
                              refine r_iinc (v := e + 1) C [(2, .int (iI (e + 1))), (1, .int (iI (0))), (8, .int (iI (bO (L2 (m_now M (4 + (2 * ((m_now M) (62 + 27 * e + 2)))))) (nCarry ((m_now M)) e 1 (L2 ((m_now M) (62 + 27 * e + 0))))))), (7, .int (iI (m_now M (4 + (2 * ((m_now M) (62 + 27 * e + 2))))))), (6, .int (iI (bO (bO (L2 ((m_now M) (62 + 27 * e + 1))) (nCarry ((m_now M)) e 0 (L2 ((m_now M) (62 + 27 * e + 0))))) (nCarry ((m_now M)) e 2 (L2 (m_now M ((4 + (2 * ((m_now M) (62 + 27 * e + 2)))) + 1))))))), (5, .int (iI ((m_now M) (62 + 27 * e + 2)))), (4, .int (iI ((m_now M) (62 + 27 * e + 1)))), (3, .int (iI ((m_now M) (62 + 27 * e + 0)))), (0, .ref (o))] dX5_loosens_235 hl 8 rfl (by decide) (by omega) rfl (fun ls hl => ?_)
                              refine r_goto C 48 dX5_loosens_238 (by decide) ?_
                              have hE : lStep (m_now M) e (mo2, L2) = (0, up (up L2 (m_now M (4 + (2 * ((m_now M) (62 + 27 * e + 2))))) (bO (L2 (m_now M (4 + (2 * ((m_now M) (62 + 27 * e + 2)))))) (nCarry ((m_now M)) e 1 (L2 ((m_now M) (62 + 27 * e + 0)))))) ((m_now M) (62 + 27 * e + 1)) (bO (bO (L2 ((m_now M) (62 + 27 * e + 1))) (nCarry ((m_now M)) e 0 (L2 ((m_now M) (62 + 27 * e + 0))))) (nCarry ((m_now M)) e 2 (L2 (m_now M ((4 + (2 * ((m_now M) (62 + 27 * e + 2)))) + 1)))))) := by
                                unfold lStep
                                exact (if_neg hc15).trans (Prod.ext (if_neg (show ¬ ((mo2 ≠ 0 ∨ bO (L2 (m_now M (4 + 2 * m_now M (62 + 27 * e + 2)))) (nCarry (m_now M) e 1 (L2 (m_now M (62 + 27 * e + 0)))) ≠ L2 (m_now M (4 + 2 * m_now M (62 + 27 * e + 2)))) ∨ bO (bO (L2 (m_now M (62 + 27 * e + 1))) (nCarry (m_now M) e 0 (L2 (m_now M (62 + 27 * e + 0))))) (nCarry (m_now M) e 2 (L2 (m_now M (4 + 2 * m_now M (62 + 27 * e + 2) + 1)))) ≠ up L2 (m_now M (4 + 2 * m_now M (62 + 27 * e + 2))) (bO (L2 (m_now M (4 + 2 * m_now M (62 + 27 * e + 2)))) (nCarry (m_now M) e 1 (L2 (m_now M (62 + 27 * e + 0))))) (m_now M (62 + 27 * e + 1))) by omega)) rfl)
                              have hS := lI9_step hN hWf ⟨he, (by omega)⟩ hLo0 hI
                              rw [hE] at hS
                              exact ih48 (e + 1) 0 (up (up L2 (m_now M (4 + (2 * ((m_now M) (62 + 27 * e + 2))))) (bO (L2 (m_now M (4 + (2 * ((m_now M) (62 + 27 * e + 2)))))) (nCarry ((m_now M)) e 1 (L2 ((m_now M) (62 + 27 * e + 0)))))) ((m_now M) (62 + 27 * e + 1)) (bO (bO (L2 ((m_now M) (62 + 27 * e + 1))) (nCarry ((m_now M)) e 0 (L2 ((m_now M) (62 + 27 * e + 0))))) (nCarry ((m_now M)) e 2 (L2 (m_now M ((4 + (2 * ((m_now M) (62 + 27 * e + 2)))) + 1)))))) (by omega) (by omega) hS hS.1 (by rw [hq2, it_s, hE]) _ _ ls hW (lv_sub hl [8, 1, 0] rfl)
                            · skip
                              refine r_iconst (z := 1) C dX5_loosens_220 rfl ?_
                              refine r_goto C 225 dX5_loosens_221 (by decide) ?_
                              refine r_istore_n C [(1, .int (iI (1))), (8, .int (iI (bO (L2 (m_now M (4 + (2 * ((m_now M) (62 + 27 * e + 2)))))) (nCarry ((m_now M)) e 1 (L2 ((m_now M) (62 + 27 * e + 0))))))), (7, .int (iI (m_now M (4 + (2 * ((m_now M) (62 + 27 * e + 2))))))), (6, .int (iI (bO (bO (L2 ((m_now M) (62 + 27 * e + 1))) (nCarry ((m_now M)) e 0 (L2 ((m_now M) (62 + 27 * e + 0))))) (nCarry ((m_now M)) e 2 (L2 (m_now M ((4 + (2 * ((m_now M) (62 + 27 * e + 2)))) + 1))))))), (5, .int (iI ((m_now M) (62 + 27 * e + 2)))), (4, .int (iI ((m_now M) (62 + 27 * e + 1)))), (3, .int (iI ((m_now M) (62 + 27 * e + 0)))), (0, .ref (o)), (2, .int (iI (e)))] dX5_loosens_225 hl (by decide) rfl (fun ls hl => ?_)
                              refine r_aload_n C dX5_loosens_226 hl 7 rfl ?_
                              refine r_get (v := .ref (ad 13)) C f_X5_49 hW.1 0 rfl rfl dX5_loosens_227 ?_
                              refine r_iload C dX5_loosens_230 hl 5 rfl ?_
                              refine r_iload C dX5_loosens_232 hl 3 rfl ?_
                              refine r_iast (f := up L2 (m_now M (4 + (2 * ((m_now M) (62 + 27 * e + 2))))) (bO (L2 (m_now M (4 + (2 * ((m_now M) (62 + 27 * e + 2)))))) (nCarry ((m_now M)) e 1 (L2 ((m_now M) (62 + 27 * e + 0)))))) C hW (mF g o ad (m_refused M) (m_now M) (m_kept M) (m_states M) (m_place M) (m_startFact M) (m_node M) (m_fact M) (m_ahead M) (m_inside M) (m_entries M) (m_caller M) (m_following M) (m_firstCaller M) (m_lastCaller M) (m_callers M) (m_known M) (up (up L2 (m_now M (4 + (2 * ((m_now M) (62 + 27 * e + 2))))) (bO (L2 (m_now M (4 + (2 * ((m_now M) (62 + 27 * e + 2)))))) (nCarry ((m_now M)) e 1 (L2 ((m_now M) (62 + 27 * e + 0)))))) ((m_now M) (62 + 27 * e + 1)) (bO (bO (L2 ((m_now M) (62 + 27 * e + 1))) (nCarry ((m_now M)) e 0 (L2 ((m_now M) (62 + 27 * e + 0))))) (nCarry ((m_now M)) e 2 (L2 (m_now M ((4 + (2 * ((m_now M) (62 + 27 * e + 2)))) + 1)))))) (m_stack M) (m_high M) (m_pairs M) (m_told M) (m_text M) (m_typed M) (m_orders M) (m_written M) (m_look M)) 14 rfl (Nat.le_of_ble_eq_true rfl) (by omega) rfl dX5_loosens_234 (fun H locs hW => ?_)
                              refine r_iinc (v := e + 1) C [(2, .int (iI (e + 1))), (1, .int (iI (1))), (8, .int (iI (bO (L2 (m_now M (4 + (2 * ((m_now M) (62 + 27 * e + 2)))))) (nCarry ((m_now M)) e 1 (L2 ((m_now M) (62 + 27 * e + 0))))))), (7, .int (iI (m_now M (4 + (2 * ((m_now M) (62 + 27 * e + 2))))))), (6, .int (iI (bO (bO (L2 ((m_now M) (62 + 27 * e + 1))) (nCarry ((m_now M)) e 0 (L2 ((m_now M) (62 + 27 * e + 0))))) (nCarry ((m_now M)) e 2 (L2 (m_now M ((4 + (2 * ((m_now M) (62 + 27 * e + 2)))) + 1))))))), (5, .int (iI ((m_now M) (62 + 27 * e + 2)))), (4, .int (iI ((m_now M) (62 + 27 * e + 1)))), (3, .int (iI ((m_now M) (62 + 27 * e + 0)))), (0, .ref (o))] dX5_loosens_235 hl 8 rfl (by decide) (by omega) rfl (fun ls hl => ?_)
                              refine r_goto C 48 dX5_loosens_238 (by decide) ?_
                              have hE : lStep (m_now M) e (mo2, L2) = (1, up (up L2 (m_now M (4 + (2 * ((m_now M) (62 + 27 * e + 2))))) (bO (L2 (m_now M (4 + (2 * ((m_now M) (62 + 27 * e + 2)))))) (nCarry ((m_now M)) e 1 (L2 ((m_now M) (62 + 27 * e + 0)))))) ((m_now M) (62 + 27 * e + 1)) (bO (bO (L2 ((m_now M) (62 + 27 * e + 1))) (nCarry ((m_now M)) e 0 (L2 ((m_now M) (62 + 27 * e + 0))))) (nCarry ((m_now M)) e 2 (L2 (m_now M ((4 + (2 * ((m_now M) (62 + 27 * e + 2)))) + 1)))))) := by
                                unfold lStep
                                exact (if_neg hc15).trans (Prod.ext (if_pos (show (mo2 ≠ 0 ∨ bO (L2 (m_now M (4 + 2 * m_now M (62 + 27 * e + 2)))) (nCarry (m_now M) e 1 (L2 (m_now M (62 + 27 * e + 0)))) ≠ L2 (m_now M (4 + 2 * m_now M (62 + 27 * e + 2)))) ∨ bO (bO (L2 (m_now M (62 + 27 * e + 1))) (nCarry (m_now M) e 0 (L2 (m_now M (62 + 27 * e + 0))))) (nCarry (m_now M) e 2 (L2 (m_now M (4 + 2 * m_now M (62 + 27 * e + 2) + 1)))) ≠ up L2 (m_now M (4 + 2 * m_now M (62 + 27 * e + 2))) (bO (L2 (m_now M (4 + 2 * m_now M (62 + 27 * e + 2)))) (nCarry (m_now M) e 1 (L2 (m_now M (62 + 27 * e + 0))))) (m_now M (62 + 27 * e + 1)) by omega)) rfl)
                              have hS := lI9_step hN hWf ⟨he, (by omega)⟩ hLo0 hI
                              rw [hE] at hS
                              exact ih48 (e + 1) 1 (up (up L2 (m_now M (4 + (2 * ((m_now M) (62 + 27 * e + 2))))) (bO (L2 (m_now M (4 + (2 * ((m_now M) (62 + 27 * e + 2)))))) (nCarry ((m_now M)) e 1 (L2 ((m_now M) (62 + 27 * e + 0)))))) ((m_now M) (62 + 27 * e + 1)) (bO (bO (L2 ((m_now M) (62 + 27 * e + 1))) (nCarry ((m_now M)) e 0 (L2 ((m_now M) (62 + 27 * e + 0))))) (nCarry ((m_now M)) e 2 (L2 (m_now M ((4 + (2 * ((m_now M) (62 + 27 * e + 2)))) + 1)))))) (by omega) (by omega) hS hS.1 (by rw [hq2, it_s, hE]) _ _ ls hW (lv_sub hl [8, 1, 0] rfl)
                        · skip
                          refine r_iconst (z := 1) C dX5_loosens_189 rfl ?_
                          refine r_goto C 194 dX5_loosens_190 (by decide) ?_
                          refine r_istore_n C [(1, .int (iI (1))), (8, .int (iI (bO (L2 (m_now M (4 + (2 * ((m_now M) (62 + 27 * e + 2)))))) (nCarry ((m_now M)) e 1 (L2 ((m_now M) (62 + 27 * e + 0))))))), (7, .int (iI (m_now M (4 + (2 * ((m_now M) (62 + 27 * e + 2))))))), (6, .int (iI (bO (bO (L2 ((m_now M) (62 + 27 * e + 1))) (nCarry ((m_now M)) e 0 (L2 ((m_now M) (62 + 27 * e + 0))))) (nCarry ((m_now M)) e 2 (L2 (m_now M ((4 + (2 * ((m_now M) (62 + 27 * e + 2)))) + 1))))))), (5, .int (iI ((m_now M) (62 + 27 * e + 2)))), (4, .int (iI ((m_now M) (62 + 27 * e + 1)))), (3, .int (iI ((m_now M) (62 + 27 * e + 0)))), (0, .ref (o)), (2, .int (iI (e)))] dX5_loosens_194 hl (by decide) rfl (fun ls hl => ?_)
                          refine r_aload_n C dX5_loosens_195 hl 7 rfl ?_
                          refine r_get (v := .ref (ad 13)) C f_X5_49 hW.1 0 rfl rfl dX5_loosens_196 ?_
                          refine r_iload C dX5_loosens_199 hl 2 rfl ?_
                          refine r_iload C dX5_loosens_201 hl 1 rfl ?_
                          refine r_iast (f := L2) C hW (mF g o ad (m_refused M) (m_now M) (m_kept M) (m_states M) (m_place M) (m_startFact M) (m_node M) (m_fact M) (m_ahead M) (m_inside M) (m_entries M) (m_caller M) (m_following M) (m_firstCaller M) (m_lastCaller M) (m_callers M) (m_known M) (up L2 (m_now M (4 + (2 * ((m_now M) (62 + 27 * e + 2))))) (bO (L2 (m_now M (4 + (2 * ((m_now M) (62 + 27 * e + 2)))))) (nCarry ((m_now M)) e 1 (L2 ((m_now M) (62 + 27 * e + 0)))))) (m_stack M) (m_high M) (m_pairs M) (m_told M) (m_text M) (m_typed M) (m_orders M) (m_written M) (m_look M)) 14 rfl (Nat.le_of_ble_eq_true rfl) (by omega) rfl dX5_loosens_203 (fun H locs hW => ?_)
                          refine r_iload_n C dX5_loosens_204 hl 0 rfl ?_
                          refine r_if_ne C 220 dX5_loosens_205 (by decide) (by omega) (fun hc29 => ?_) (fun hc29 => ?_)
                          · skip
                            refine r_iconst (z := 1) C dX5_loosens_220 rfl ?_
                            refine r_goto C 225 dX5_loosens_221 (by decide) ?_
                            refine r_istore_n C [(1, .int (iI (1))), (8, .int (iI (bO (L2 (m_now M (4 + (2 * ((m_now M) (62 + 27 * e + 2)))))) (nCarry ((m_now M)) e 1 (L2 ((m_now M) (62 + 27 * e + 0))))))), (7, .int (iI (m_now M (4 + (2 * ((m_now M) (62 + 27 * e + 2))))))), (6, .int (iI (bO (bO (L2 ((m_now M) (62 + 27 * e + 1))) (nCarry ((m_now M)) e 0 (L2 ((m_now M) (62 + 27 * e + 0))))) (nCarry ((m_now M)) e 2 (L2 (m_now M ((4 + (2 * ((m_now M) (62 + 27 * e + 2)))) + 1))))))), (5, .int (iI ((m_now M) (62 + 27 * e + 2)))), (4, .int (iI ((m_now M) (62 + 27 * e + 1)))), (3, .int (iI ((m_now M) (62 + 27 * e + 0)))), (0, .ref (o)), (2, .int (iI (e)))] dX5_loosens_225 hl (by decide) rfl (fun ls hl => ?_)
                            refine r_aload_n C dX5_loosens_226 hl 7 rfl ?_
                            refine r_get (v := .ref (ad 13)) C f_X5_49 hW.1 0 rfl rfl dX5_loosens_227 ?_
                            refine r_iload C dX5_loosens_230 hl 5 rfl ?_
                            refine r_iload C dX5_loosens_232 hl 3 rfl ?_
                            refine r_iast (f := up L2 (m_now M (4 + (2 * ((m_now M) (62 + 27 * e + 2))))) (bO (L2 (m_now M (4 + (2 * ((m_now M) (62 + 27 * e + 2)))))) (nCarry ((m_now M)) e 1 (L2 ((m_now M) (62 + 27 * e + 0)))))) C hW (mF g o ad (m_refused M) (m_now M) (m_kept M) (m_states M) (m_place M) (m_startFact M) (m_node M) (m_fact M) (m_ahead M) (m_inside M) (m_entries M) (m_caller M) (m_following M) (m_firstCaller M) (m_lastCaller M) (m_callers M) (m_known M) (up (up L2 (m_now M (4 + (2 * ((m_now M) (62 + 27 * e + 2))))) (bO (L2 (m_now M (4 + (2 * ((m_now M) (62 + 27 * e + 2)))))) (nCarry ((m_now M)) e 1 (L2 ((m_now M) (62 + 27 * e + 0)))))) ((m_now M) (62 + 27 * e + 1)) (bO (bO (L2 ((m_now M) (62 + 27 * e + 1))) (nCarry ((m_now M)) e 0 (L2 ((m_now M) (62 + 27 * e + 0))))) (nCarry ((m_now M)) e 2 (L2 (m_now M ((4 + (2 * ((m_now M) (62 + 27 * e + 2)))) + 1)))))) (m_stack M) (m_high M) (m_pairs M) (m_told M) (m_text M) (m_typed M) (m_orders M) (m_written M) (m_look M)) 14 rfl (Nat.le_of_ble_eq_true rfl) (by omega) rfl dX5_loosens_234 (fun H locs hW => ?_)
                            refine r_iinc (v := e + 1) C [(2, .int (iI (e + 1))), (1, .int (iI (1))), (8, .int (iI (bO (L2 (m_now M (4 + (2 * ((m_now M) (62 + 27 * e + 2)))))) (nCarry ((m_now M)) e 1 (L2 ((m_now M) (62 + 27 * e + 0))))))), (7, .int (iI (m_now M (4 + (2 * ((m_now M) (62 + 27 * e + 2))))))), (6, .int (iI (bO (bO (L2 ((m_now M) (62 + 27 * e + 1))) (nCarry ((m_now M)) e 0 (L2 ((m_now M) (62 + 27 * e + 0))))) (nCarry ((m_now M)) e 2 (L2 (m_now M ((4 + (2 * ((m_now M) (62 + 27 * e + 2)))) + 1))))))), (5, .int (iI ((m_now M) (62 + 27 * e + 2)))), (4, .int (iI ((m_now M) (62 + 27 * e + 1)))), (3, .int (iI ((m_now M) (62 + 27 * e + 0)))), (0, .ref (o))] dX5_loosens_235 hl 8 rfl (by decide) (by omega) rfl (fun ls hl => ?_)
                            refine r_goto C 48 dX5_loosens_238 (by decide) ?_
                            have hE : lStep (m_now M) e (mo2, L2) = (1, up (up L2 (m_now M (4 + (2 * ((m_now M) (62 + 27 * e + 2))))) (bO (L2 (m_now M (4 + (2 * ((m_now M) (62 + 27 * e + 2)))))) (nCarry ((m_now M)) e 1 (L2 ((m_now M) (62 + 27 * e + 0)))))) ((m_now M) (62 + 27 * e + 1)) (bO (bO (L2 ((m_now M) (62 + 27 * e + 1))) (nCarry ((m_now M)) e 0 (L2 ((m_now M) (62 + 27 * e + 0))))) (nCarry ((m_now M)) e 2 (L2 (m_now M ((4 + (2 * ((m_now M) (62 + 27 * e + 2)))) + 1)))))) := by
                              unfold lStep
                              exact (if_neg hc15).trans (Prod.ext (if_pos (show (mo2 ≠ 0 ∨ bO (L2 (m_now M (4 + 2 * m_now M (62 + 27 * e + 2)))) (nCarry (m_now M) e 1 (L2 (m_now M (62 + 27 * e + 0)))) ≠ L2 (m_now M (4 + 2 * m_now M (62 + 27 * e + 2)))) ∨ bO (bO (L2 (m_now M (62 + 27 * e + 1))) (nCarry (m_now M) e 0 (L2 (m_now M (62 + 27 * e + 0))))) (nCarry (m_now M) e 2 (L2 (m_now M (4 + 2 * m_now M (62 + 27 * e + 2) + 1)))) ≠ up L2 (m_now M (4 + 2 * m_now M (62 + 27 * e + 2))) (bO (L2 (m_now M (4 + 2 * m_now M (62 + 27 * e + 2)))) (nCarry (m_now M) e 1 (L2 (m_now M (62 + 27 * e + 0))))) (m_now M (62 + 27 * e + 1)) by omega)) rfl)
                            have hS := lI9_step hN hWf ⟨he, (by omega)⟩ hLo0 hI
                            rw [hE] at hS
                            exact ih48 (e + 1) 1 (up (up L2 (m_now M (4 + (2 * ((m_now M) (62 + 27 * e + 2))))) (bO (L2 (m_now M (4 + (2 * ((m_now M) (62 + 27 * e + 2)))))) (nCarry ((m_now M)) e 1 (L2 ((m_now M) (62 + 27 * e + 0)))))) ((m_now M) (62 + 27 * e + 1)) (bO (bO (L2 ((m_now M) (62 + 27 * e + 1))) (nCarry ((m_now M)) e 0 (L2 ((m_now M) (62 + 27 * e + 0))))) (nCarry ((m_now M)) e 2 (L2 (m_now M ((4 + (2 * ((m_now M) (62 + 27 * e + 2)))) + 1)))))) (by omega) (by omega) hS hS.1 (by rw [hq2, it_s, hE]) _ _ ls hW (lv_sub hl [8, 1, 0] rfl)
                          · exact absurd hc29 (by omega)
              exact hloop48 (m_now M 2).toNat 0 0 L0 (by omega) (by omega) ⟨hLo0, lSub_rf L0, Or.inl rfl, fun h => absurd rfl h, fun _ => rfl⟩ hLo0 rfl _ _ ls hW (lv_sub hl [2, 1, 0] rfl)
        have hcl : cLo (m_loose M) = L := hq1
        have hs0 := lSt_ok hN hM_loose
        have hw0 := wtF_r (lSt (m_now M) (m_loose M)) 24
        exact hloop40 193 1 (lSt (m_now M) (m_loose M)) (by omega) (by omega) hs0 (if_neg (by omega)).symm _ _ ls (by unfold lSt; rw [hcl]; exact hW) (lv_sub hl [1, 0] rfl)
      · exact absurd hc1 (by omega)
    | succ k2 ih2 =>
      intro i L hkk hi hq1 H locs ls hW hl
      refine r_iload_n C dX5_loosens_2 hl 1 rfl ?_
      refine r_bipush (z := 24) C dX5_loosens_3 rfl ?_
      refine r_icmp_ge C 21 dX5_loosens_5 (by decide) (by omega) (by omega) (fun hc30 => ?_) (fun hc30 => ?_)
      · exact absurd hc30 (by omega)
      · skip
        refine r_aload_n C dX5_loosens_8 hl 0 rfl ?_
        refine r_get (v := .ref (ad 13)) C f_X5_49 hW.1 0 rfl rfl dX5_loosens_9 ?_
        refine r_iload_n C dX5_loosens_12 hl 1 rfl ?_
        refine r_iconst (z := 0) C dX5_loosens_13 rfl ?_
        refine r_iast (f := L) C hW (mF g o ad (m_refused M) (m_now M) (m_kept M) (m_states M) (m_place M) (m_startFact M) (m_node M) (m_fact M) (m_ahead M) (m_inside M) (m_entries M) (m_caller M) (m_following M) (m_firstCaller M) (m_lastCaller M) (m_callers M) (m_known M) (up L i 0) (m_stack M) (m_high M) (m_pairs M) (m_told M) (m_text M) (m_typed M) (m_orders M) (m_written M) (m_look M)) 14 rfl (Nat.le_of_ble_eq_true rfl) (by omega) rfl dX5_loosens_14 (fun H locs hW => ?_)
        refine r_iinc (v := i + 1) C [(1, .int (iI (i + 1))), (0, .ref (o))] dX5_loosens_15 hl 1 rfl (by decide) (by omega) rfl (fun ls hl => ?_)
        refine r_goto C 2 dX5_loosens_18 (by decide) ?_
        exact ih2 _ _ (by omega) (by omega) (by rw [hq1, it_s]) _ _ ls hW (lv_sub hl [1, 0] rfl)
  exact hloop2 24 0 _ (by omega) (by omega) rfl _ _ ls hW (lv_sub hl [1, 0] rfl)
set_option maxHeartbeats 4000000 in
set_option maxRecDepth 100000 in
theorem c_X5_looseAt (l : Launch) (g : GG) (o : Nat) (ad : Nat → Nat) (M : Md) (n : Int) (hM : mOk M) (hN : nOk (m_now M)) (hWf : nWf (m_now M)) (hn : 0 ≤ n ∧ n < 24) : MW l g yX5_looseAt cX5_looseAt 2 (some .int) 3 76 [.ref (o), .int (iI (n))] (mF g o ad (m_refused M) (m_now M) (m_kept M) (m_states M) (m_place M) (m_startFact M) (m_node M) (m_fact M) (m_ahead M) (m_inside M) (m_entries M) (m_caller M) (m_following M) (m_firstCaller M) (m_lastCaller M) (m_callers M) (m_known M) (m_loose M) (m_stack M) (m_high M) (m_pairs M) (m_told M) (m_text M) (m_typed M) (m_orders M) (m_written M) (m_look M)) (mF g o ad (m_refused (mLo M)) (m_now (mLo M)) (m_kept (mLo M)) (m_states (mLo M)) (m_place (mLo M)) (m_startFact (mLo M)) (m_node (mLo M)) (m_fact (mLo M)) (m_ahead (mLo M)) (m_inside (mLo M)) (m_entries (mLo M)) (m_caller (mLo M)) (m_following (mLo M)) (m_firstCaller (mLo M)) (m_lastCaller (mLo M)) (m_callers (mLo M)) (m_known (mLo M)) (m_loose (mLo M)) (m_stack (mLo M)) (m_high (mLo M)) (m_pairs (mLo M)) (m_told (mLo M)) (m_text (mLo M)) (m_typed (mLo M)) (m_orders (mLo M)) (m_written (mLo M)) (m_look (mLo M))) (some (.int (iI (m_loose (mLo M) n)))) := by
  refine MW_start (by decide) (Nat.le_of_ble_eq_true rfl) ?_
  intro zp ze zs zm zb zt zc A hAe C hrt hlk hW ls hl
  have hA : ∀ q, zs.heap.size ≤ q → A q := fun q h => by rw [hAe]; exact Or.inr h
  have hl : lv_has ls 2 [(0, .ref (o)), (1, .int (iI (n)))] := hl
  have hM_refused : ∀ j : Int, 0 ≤ j → j < 3 → 0 ≤ m_refused M j ∧ m_refused M j ≤ 1000000 := hM.1
  have hM_states : 0 ≤ m_states M ∧ m_states M ≤ 5 := hM.2.1
  have hM_place : ∀ j : Int, 0 ≤ j → j < 1536 → 0 ≤ m_place M j ∧ m_place M j ≤ 1536 := hM.2.2.1
  have hM_startFact : ∀ j : Int, 0 ≤ j → j < 1536 → 0 ≤ m_startFact M j ∧ m_startFact M j ≤ 7 := hM.2.2.2.1
  have hM_node : ∀ j : Int, 0 ≤ j → j < 1536 → 0 ≤ m_node M j ∧ m_node M j ≤ 23 := hM.2.2.2.2.1
  have hM_fact : ∀ j : Int, 0 ≤ j → j < 1536 → 0 ≤ m_fact M j ∧ m_fact M j ≤ 7 := hM.2.2.2.2.2.1
  have hM_ahead : ∀ j : Int, 0 ≤ j → j < 1536 → -1 ≤ m_ahead M j ∧ m_ahead M j ≤ 1535 := hM.2.2.2.2.2.2.1
  have hM_inside : ∀ j : Int, 0 ≤ j → j < 1536 → -1 ≤ m_inside M j ∧ m_inside M j ≤ 1535 := hM.2.2.2.2.2.2.2.1
  have hM_entries : 0 ≤ m_entries M ∧ m_entries M ≤ 1536 := hM.2.2.2.2.2.2.2.2.1
  have hM_caller : ∀ j : Int, 0 ≤ j → j < 16384 → 0 ≤ m_caller M j ∧ m_caller M j ≤ 49151 := hM.2.2.2.2.2.2.2.2.2.1
  have hM_following : ∀ j : Int, 0 ≤ j → j < 16384 → -1 ≤ m_following M j ∧ m_following M j ≤ 16383 := hM.2.2.2.2.2.2.2.2.2.2.1
  have hM_firstCaller : ∀ j : Int, 0 ≤ j → j < 40 → -1 ≤ m_firstCaller M j ∧ m_firstCaller M j ≤ 16383 := hM.2.2.2.2.2.2.2.2.2.2.2.1
  have hM_lastCaller : ∀ j : Int, 0 ≤ j → j < 40 → -1 ≤ m_lastCaller M j ∧ m_lastCaller M j ≤ 16383 := hM.2.2.2.2.2.2.2.2.2.2.2.2.1
  have hM_callers : 0 ≤ m_callers M ∧ m_callers M ≤ 16384 := hM.2.2.2.2.2.2.2.2.2.2.2.2.2.1
  have hM_known : 0 ≤ m_known M ∧ m_known M ≤ 1 := hM.2.2.2.2.2.2.2.2.2.2.2.2.2.2.1
  have hM_loose : ∀ j : Int, 0 ≤ j → j < 24 → 0 ≤ m_loose M j ∧ m_loose M j ≤ 255 := hM.2.2.2.2.2.2.2.2.2.2.2.2.2.2.2.1
  have hM_stack : ∀ j : Int, 0 ≤ j → j < 8000 → 0 ≤ m_stack M j ∧ m_stack M j ≤ 6143 := hM.2.2.2.2.2.2.2.2.2.2.2.2.2.2.2.2.1
  have hM_high : 0 ≤ m_high M ∧ m_high M ≤ 8000 := hM.2.2.2.2.2.2.2.2.2.2.2.2.2.2.2.2.2.1
  have hM_pairs : ∀ j : Int, 0 ≤ j → j < 1000 → 0 ≤ m_pairs M j ∧ m_pairs M j ≤ 239 := hM.2.2.2.2.2.2.2.2.2.2.2.2.2.2.2.2.2.2.1
  have hM_told : 0 ≤ m_told M ∧ m_told M ≤ 1000 := hM.2.2.2.2.2.2.2.2.2.2.2.2.2.2.2.2.2.2.2.1
  have hM_text : ∀ j : Int, 0 ≤ j → j < 120 → 0 ≤ m_text M j ∧ m_text M j ≤ 127 := hM.2.2.2.2.2.2.2.2.2.2.2.2.2.2.2.2.2.2.2.2.1
  have hM_typed : 0 ≤ m_typed M ∧ m_typed M ≤ 120 := hM.2.2.2.2.2.2.2.2.2.2.2.2.2.2.2.2.2.2.2.2.2.1
  have hM_orders : ∀ j : Int, 0 ≤ j → j < 300 → 0 ≤ m_orders M j ∧ m_orders M j ≤ 999 := hM.2.2.2.2.2.2.2.2.2.2.2.2.2.2.2.2.2.2.2.2.2.2.1
  have hM_written : 0 ≤ m_written M ∧ m_written M ≤ 60 := hM.2.2.2.2.2.2.2.2.2.2.2.2.2.2.2.2.2.2.2.2.2.2.2.1
  have hM_look : 0 ≤ m_look M ∧ m_look M ≤ 120 := hM.2.2.2.2.2.2.2.2.2.2.2.2.2.2.2.2.2.2.2.2.2.2.2.2
  have hN_0 := hN.1
  have hN_1 := hN.2.1
  have hN_2 := hN.2.2.1
  have hN_3 := hN.2.2.2.1
  refine r_aload_n C dX5_looseAt_0 hl 0 rfl ?_
  refine r_callW (rest := []) (r := none) (wr := []) (ws2 := mF g o ad (m_refused M) (m_now M) (m_kept M) (m_states M) (m_place M) (m_startFact M) (m_node M) (m_fact M) (m_ahead M) (m_inside M) (m_entries M) (m_caller M) (m_following M) (m_firstCaller M) (m_lastCaller M) (m_callers M) (m_known M) (lIter ((m_now M)) 193 (lSt ((m_now M)) ((m_loose M)))) (m_stack M) (m_high M) (m_pairs M) (m_told M) (m_text M) (m_typed M) (m_orders M) (m_written M) (m_look M)) (st1 := []) C hl.1 hW hA (c_X5_loosens l g o ad M  (by assumption) (by assumption) (by assumption)) v_X5_203 rfl [0, 1, 2, 3, 4, 5, 6, 7, 8, 9, 10, 11, 12, 13, 14, 15, 16, 17, 18] [] [0, 1, 2, 3, 4, 5, 6, 7, 8, 9, 10, 11, 12, 13, 14, 15, 16, 17, 18] rfl rfl (by decide) (by decide) rfl rfl 0 rfl rfl rfl (by decide) (by decide) (Nat.le_of_ble_eq_true rfl) dX5_looseAt_1 rfl rfl (fun H locs hW => ?_)
  refine r_aload_n C dX5_looseAt_4 hl 0 rfl ?_
  refine r_get (v := .ref (ad 13)) C f_X5_49 hW.1 0 rfl rfl dX5_looseAt_5 ?_
  refine r_iload_n C dX5_looseAt_8 hl 1 rfl ?_
  refine r_iald (f := lIter ((m_now M)) 193 (lSt ((m_now M)) ((m_loose M)))) C hW.1 14 rfl (Nat.le_of_ble_eq_true rfl) (by omega) dX5_looseAt_9 ?_
  exact MW_iret C hAe hrt hlk hW dX5_looseAt_10 (iw rfl) rfl
set_option maxHeartbeats 4000000 in
set_option maxRecDepth 100000 in
theorem c_X5_loose (l : Launch) (g : GG) (o : Nat) (ad : Nat → Nat) (M : Md) (n : Int) (hM : mOk M) (hN : nOk (m_now M)) (hWf : nWf (m_now M)) (h_n : rg n) : MW l g yX5_loose cX5_loose 2 (some .int) 4 97 [.ref (o), .int (iI (n))] (mF g o ad (m_refused M) (m_now M) (m_kept M) (m_states M) (m_place M) (m_startFact M) (m_node M) (m_fact M) (m_ahead M) (m_inside M) (m_entries M) (m_caller M) (m_following M) (m_firstCaller M) (m_lastCaller M) (m_callers M) (m_known M) (m_loose M) (m_stack M) (m_high M) (m_pairs M) (m_told M) (m_text M) (m_typed M) (m_orders M) (m_written M) (m_look M)) (mF g o ad (m_refused ((mLoose n M).2)) (m_now ((mLoose n M).2)) (m_kept ((mLoose n M).2)) (m_states ((mLoose n M).2)) (m_place ((mLoose n M).2)) (m_startFact ((mLoose n M).2)) (m_node ((mLoose n M).2)) (m_fact ((mLoose n M).2)) (m_ahead ((mLoose n M).2)) (m_inside ((mLoose n M).2)) (m_entries ((mLoose n M).2)) (m_caller ((mLoose n M).2)) (m_following ((mLoose n M).2)) (m_firstCaller ((mLoose n M).2)) (m_lastCaller ((mLoose n M).2)) (m_callers ((mLoose n M).2)) (m_known ((mLoose n M).2)) (m_loose ((mLoose n M).2)) (m_stack ((mLoose n M).2)) (m_high ((mLoose n M).2)) (m_pairs ((mLoose n M).2)) (m_told ((mLoose n M).2)) (m_text ((mLoose n M).2)) (m_typed ((mLoose n M).2)) (m_orders ((mLoose n M).2)) (m_written ((mLoose n M).2)) (m_look ((mLoose n M).2))) (some (.int (iI ((mLoose n M).1)))) := by
  refine MW_start (by decide) (Nat.le_of_ble_eq_true rfl) ?_
  intro zp ze zs zm zb zt zc A hAe C hrt hlk hW ls hl
  have hA : ∀ q, zs.heap.size ≤ q → A q := fun q h => by rw [hAe]; exact Or.inr h
  have hl : lv_has ls 2 [(0, .ref (o)), (1, .int (iI (n)))] := hl
  have hM_refused : ∀ j : Int, 0 ≤ j → j < 3 → 0 ≤ m_refused M j ∧ m_refused M j ≤ 1000000 := hM.1
  have hM_states : 0 ≤ m_states M ∧ m_states M ≤ 5 := hM.2.1
  have hM_place : ∀ j : Int, 0 ≤ j → j < 1536 → 0 ≤ m_place M j ∧ m_place M j ≤ 1536 := hM.2.2.1
  have hM_startFact : ∀ j : Int, 0 ≤ j → j < 1536 → 0 ≤ m_startFact M j ∧ m_startFact M j ≤ 7 := hM.2.2.2.1
  have hM_node : ∀ j : Int, 0 ≤ j → j < 1536 → 0 ≤ m_node M j ∧ m_node M j ≤ 23 := hM.2.2.2.2.1
  have hM_fact : ∀ j : Int, 0 ≤ j → j < 1536 → 0 ≤ m_fact M j ∧ m_fact M j ≤ 7 := hM.2.2.2.2.2.1
  have hM_ahead : ∀ j : Int, 0 ≤ j → j < 1536 → -1 ≤ m_ahead M j ∧ m_ahead M j ≤ 1535 := hM.2.2.2.2.2.2.1
  have hM_inside : ∀ j : Int, 0 ≤ j → j < 1536 → -1 ≤ m_inside M j ∧ m_inside M j ≤ 1535 := hM.2.2.2.2.2.2.2.1
  have hM_entries : 0 ≤ m_entries M ∧ m_entries M ≤ 1536 := hM.2.2.2.2.2.2.2.2.1
  have hM_caller : ∀ j : Int, 0 ≤ j → j < 16384 → 0 ≤ m_caller M j ∧ m_caller M j ≤ 49151 := hM.2.2.2.2.2.2.2.2.2.1
  have hM_following : ∀ j : Int, 0 ≤ j → j < 16384 → -1 ≤ m_following M j ∧ m_following M j ≤ 16383 := hM.2.2.2.2.2.2.2.2.2.2.1
  have hM_firstCaller : ∀ j : Int, 0 ≤ j → j < 40 → -1 ≤ m_firstCaller M j ∧ m_firstCaller M j ≤ 16383 := hM.2.2.2.2.2.2.2.2.2.2.2.1
  have hM_lastCaller : ∀ j : Int, 0 ≤ j → j < 40 → -1 ≤ m_lastCaller M j ∧ m_lastCaller M j ≤ 16383 := hM.2.2.2.2.2.2.2.2.2.2.2.2.1
  have hM_callers : 0 ≤ m_callers M ∧ m_callers M ≤ 16384 := hM.2.2.2.2.2.2.2.2.2.2.2.2.2.1
  have hM_known : 0 ≤ m_known M ∧ m_known M ≤ 1 := hM.2.2.2.2.2.2.2.2.2.2.2.2.2.2.1
  have hM_loose : ∀ j : Int, 0 ≤ j → j < 24 → 0 ≤ m_loose M j ∧ m_loose M j ≤ 255 := hM.2.2.2.2.2.2.2.2.2.2.2.2.2.2.2.1
  have hM_stack : ∀ j : Int, 0 ≤ j → j < 8000 → 0 ≤ m_stack M j ∧ m_stack M j ≤ 6143 := hM.2.2.2.2.2.2.2.2.2.2.2.2.2.2.2.2.1
  have hM_high : 0 ≤ m_high M ∧ m_high M ≤ 8000 := hM.2.2.2.2.2.2.2.2.2.2.2.2.2.2.2.2.2.1
  have hM_pairs : ∀ j : Int, 0 ≤ j → j < 1000 → 0 ≤ m_pairs M j ∧ m_pairs M j ≤ 239 := hM.2.2.2.2.2.2.2.2.2.2.2.2.2.2.2.2.2.2.1
  have hM_told : 0 ≤ m_told M ∧ m_told M ≤ 1000 := hM.2.2.2.2.2.2.2.2.2.2.2.2.2.2.2.2.2.2.2.1
  have hM_text : ∀ j : Int, 0 ≤ j → j < 120 → 0 ≤ m_text M j ∧ m_text M j ≤ 127 := hM.2.2.2.2.2.2.2.2.2.2.2.2.2.2.2.2.2.2.2.2.1
  have hM_typed : 0 ≤ m_typed M ∧ m_typed M ≤ 120 := hM.2.2.2.2.2.2.2.2.2.2.2.2.2.2.2.2.2.2.2.2.2.1
  have hM_orders : ∀ j : Int, 0 ≤ j → j < 300 → 0 ≤ m_orders M j ∧ m_orders M j ≤ 999 := hM.2.2.2.2.2.2.2.2.2.2.2.2.2.2.2.2.2.2.2.2.2.2.1
  have hM_written : 0 ≤ m_written M ∧ m_written M ≤ 60 := hM.2.2.2.2.2.2.2.2.2.2.2.2.2.2.2.2.2.2.2.2.2.2.2.1
  have hM_look : 0 ≤ m_look M ∧ m_look M ≤ 120 := hM.2.2.2.2.2.2.2.2.2.2.2.2.2.2.2.2.2.2.2.2.2.2.2.2
  have hN_0 := hN.1
  have hN_1 := hN.2.1
  have hN_2 := hN.2.2.1
  have hN_3 := hN.2.2.2.1
  refine r_aload_n C dX5_loose_0 hl 0 rfl ?_
  refine r_iload_n C dX5_loose_1 hl 1 rfl ?_
  refine r_callR (rest := []) (r := .int (iI (bI (0 ≤ n ∧ n ≤ (m_now M) 1 - 1)))) C hl.1 (c_X5_isNode l g o ad (m_refused M) (m_now M) (m_kept M) (m_states M) (m_place M) (m_startFact M) (m_node M) (m_fact M) (m_ahead M) (m_inside M) (m_entries M) (m_caller M) (m_following M) (m_firstCaller M) (m_lastCaller M) (m_callers M) (m_known M) (m_loose M) (m_stack M) (m_high M) (m_pairs M) (m_told M) (m_text M) (m_typed M) (m_orders M) (m_written M) (m_look M) n (by assumption) (show rg n by omega)) v_X5_101 rfl hW.1 0 rfl rfl rfl (by decide) (by decide) (Nat.le_of_ble_eq_true rfl) dX5_loose_2 rfl ?_
  refine r_ifb_eq C 16 dX5_loose_5 (by decide) (fun hc1 => ?_) (fun hc1 => ?_)
  · skip
    refine r_aload_n C dX5_loose_16 hl 0 rfl ?_
    refine r_callW (rest := []) (r := some (.int (iI (-2)))) (wr := []) (ws2 := mF g o ad (up ((m_refused M)) 0 ((m_refused M) 0 + 1)) (m_now M) (m_kept M) (m_states M) (m_place M) (m_startFact M) (m_node M) (m_fact M) (m_ahead M) (m_inside M) (m_entries M) (m_caller M) (m_following M) (m_firstCaller M) (m_lastCaller M) (m_callers M) (m_known M) (m_loose M) (m_stack M) (m_high M) (m_pairs M) (m_told M) (m_text M) (m_typed M) (m_orders M) (m_written M) (m_look M)) (st1 := [.int (iI (-2))]) C hl.1 hW hA (c_X5_bad l g o ad (m_refused M) (m_now M) (m_kept M) (m_states M) (m_place M) (m_startFact M) (m_node M) (m_fact M) (m_ahead M) (m_inside M) (m_entries M) (m_caller M) (m_following M) (m_firstCaller M) (m_lastCaller M) (m_callers M) (m_known M) (m_loose M) (m_stack M) (m_high M) (m_pairs M) (m_told M) (m_text M) (m_typed M) (m_orders M) (m_written M) (m_look M)) v_X5_68 rfl [0, 1, 2, 3, 4, 5, 6, 7, 8, 9, 10, 11, 12, 13, 14, 15, 16, 17, 18] [] [0, 1, 2, 3, 4, 5, 6, 7, 8, 9, 10, 11, 12, 13, 14, 15, 16, 17, 18] rfl rfl (by decide) (by decide) rfl rfl 0 rfl rfl rfl (by decide) (by decide) (Nat.le_of_ble_eq_true rfl) dX5_loose_17 rfl rfl (fun H locs hW => ?_)
    have hE : mLoose n M = (-2, (up ((m_refused M)) 0 ((m_refused M) 0 + 1), m_now M, m_kept M, m_states M, m_place M, m_startFact M, m_node M, m_fact M, m_ahead M, m_inside M, m_entries M, m_caller M, m_following M, m_firstCaller M, m_lastCaller M, m_callers M, m_known M, m_loose M, m_stack M, m_high M, m_pairs M, m_told M, m_text M, m_typed M, m_orders M, m_written M, m_look M)) := if_neg (by assumption)
    exact MW_iret C hAe hrt hlk hW dX5_loose_20 (iw (by rw [hE])) (by rw [hE])
  · skip
    refine r_aload_n C dX5_loose_8 hl 0 rfl ?_
    refine r_iload_n C dX5_loose_9 hl 1 rfl ?_
    refine r_callW (rest := []) (r := some (.int (iI (m_loose (mLo M) n)))) (wr := []) (ws2 := mF g o ad (m_refused (mLo M)) (m_now (mLo M)) (m_kept (mLo M)) (m_states (mLo M)) (m_place (mLo M)) (m_startFact (mLo M)) (m_node (mLo M)) (m_fact (mLo M)) (m_ahead (mLo M)) (m_inside (mLo M)) (m_entries (mLo M)) (m_caller (mLo M)) (m_following (mLo M)) (m_firstCaller (mLo M)) (m_lastCaller (mLo M)) (m_callers (mLo M)) (m_known (mLo M)) (m_loose (mLo M)) (m_stack (mLo M)) (m_high (mLo M)) (m_pairs (mLo M)) (m_told (mLo M)) (m_text (mLo M)) (m_typed (mLo M)) (m_orders (mLo M)) (m_written (mLo M)) (m_look (mLo M))) (st1 := [.int (iI (m_loose (mLo M) n))]) C hl.1 hW hA (c_X5_looseAt l g o ad M n (by assumption) (by assumption) (by assumption) (show 0 ≤ n ∧ n < 24 by omega)) v_X5_206 rfl [0, 1, 2, 3, 4, 5, 6, 7, 8, 9, 10, 11, 12, 13, 14, 15, 16, 17, 18] [] [0, 1, 2, 3, 4, 5, 6, 7, 8, 9, 10, 11, 12, 13, 14, 15, 16, 17, 18] rfl rfl (by decide) (by decide) rfl rfl 0 rfl rfl rfl (by decide) (by decide) (Nat.le_of_ble_eq_true rfl) dX5_loose_10 rfl rfl (fun H locs hW => ?_)
    refine r_goto C 20 dX5_loose_13 (by decide) ?_
    have hE : mLoose n M = (m_loose (mLo M) n, (mLo M)) := if_pos (by assumption)
    exact MW_iret C hAe hrt hlk hW dX5_loose_20 (iw (by rw [hE])) (by rw [hE])

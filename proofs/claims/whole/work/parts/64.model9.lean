set_option maxHeartbeats 4000000 in
set_option maxRecDepth 100000 in
theorem c_X5_fills (l : Launch) (g : GG) (o : Nat) (ad : Nat → Nat) (M : Md) (hM : mOk M) (hN : nOk (m_now M)) (hWf : nWf (m_now M)) (hV : wV (m_now M) 0 M) : MW l g yX5_fills cX5_fills 2 none 5 126 [.ref (o)] (mF g o ad (m_refused M) (m_now M) (m_kept M) (m_states M) (m_place M) (m_startFact M) (m_node M) (m_fact M) (m_ahead M) (m_inside M) (m_entries M) (m_caller M) (m_following M) (m_firstCaller M) (m_lastCaller M) (m_callers M) (m_known M) (m_loose M) (m_stack M) (m_high M) (m_pairs M) (m_told M) (m_text M) (m_typed M) (m_orders M) (m_written M) (m_look M)) (mF g o ad (m_refused (mFl 1536 0 M)) (m_now (mFl 1536 0 M)) (m_kept (mFl 1536 0 M)) (m_states (mFl 1536 0 M)) (m_place (mFl 1536 0 M)) (m_startFact (mFl 1536 0 M)) (m_node (mFl 1536 0 M)) (m_fact (mFl 1536 0 M)) (m_ahead (mFl 1536 0 M)) (m_inside (mFl 1536 0 M)) (m_entries (mFl 1536 0 M)) (m_caller (mFl 1536 0 M)) (m_following (mFl 1536 0 M)) (m_firstCaller (mFl 1536 0 M)) (m_lastCaller (mFl 1536 0 M)) (m_callers (mFl 1536 0 M)) (m_known (mFl 1536 0 M)) (m_loose (mFl 1536 0 M)) (m_stack (mFl 1536 0 M)) (m_high (mFl 1536 0 M)) (m_pairs (mFl 1536 0 M)) (m_told (mFl 1536 0 M)) (m_text (mFl 1536 0 M)) (m_typed (mFl 1536 0 M)) (m_orders (mFl 1536 0 M)) (m_written (mFl 1536 0 M)) (m_look (mFl 1536 0 M))) none := by
  refine MW_start (by decide) (Nat.le_of_ble_eq_true rfl) ?_
  intro zp ze zs zm zb zt zc A hAe C hrt hlk hW ls hl
  have hA : ∀ q, zs.heap.size ≤ q → A q := fun q h => by rw [hAe]; exact Or.inr h
  have hl : lv_has ls 2 [(0, .ref (o))] := hl
  have hM_refused : ∀ j : Int, 0 ≤ j → j < 3 → 0 ≤ m_refused M j ∧ m_refused M j ≤ 1000000 := hM.1
  have hM_states : 0 ≤ m_states M ∧ m_states M ≤ 5 := hM.2.1
  have hM_place : ∀ j : Int, 0 ≤ j → j < 1536 → 0 ≤ m_place M j ∧ m_place M j ≤ 1536 := hM.2.2.1
  have hM_startFact : ∀ j : Int, 0 ≤ j → j < 1536 → 0 ≤ m_startFact M j ∧ m_startFact M j ≤ 7 := hM.2.2.2.1
  have hM_node : ∀ j : Int, 0 ≤ j → j < 1536 → 0 ≤ m_node M j ∧ m_node M j ≤ 23 := hM.2.2.2.2.1
  have hM_fact : ∀ j : Int, 0 ≤ j → j < 1536 → 0 ≤ m_fact M j ∧ m_fact M j ≤ 7 := hM.2.2.2.2.2.1
  have hM_ahead : ∀ j : Int, 0 ≤ j → j < 1536 → -1 ≤ m_ahead M j ∧ m_ahead M j ≤ 1535 := hM.2.2.2.2.2.2.1
  have hM_inside : ∀ j : Int, 0 ≤ j → j < 1536 → -1 ≤ m_inside M j ∧ m_inside M j ≤ 1535 := hM.2.2.2.2.2.2.2.1
  have hM_entries : 0 ≤ m_entries M ∧ m_entries M ≤ 1536 := hM.2.2.2.2.2.2.2.2.1
  have hM_caller : ∀ j : Int, 0 ≤ j → j < 16384 → 0 ≤ m_caller M j ∧ m_caller M j ≤ 49151 := hM.2.2.2.2.2.2.2.2.2.1
  have hM_following : ∀ j : Int, 0 ≤ j → j < 16384 → -1 ≤ m_following M j ∧ m_following M j ≤ 16383 := hM.2.2.2.2.2.2.2.2.2.2.1
  have hM_firstCaller : ∀ j : Int, 0 ≤ j → j < 40 → -1 ≤ m_firstCaller M j ∧ m_firstCaller M j ≤ 16383 := hM.2.2.2.2.2.2.2.2.2.2.2.1
  have hM_lastCaller : ∀ j : Int, 0 ≤ j → j < 40 → -1 ≤ m_lastCaller M j ∧ m_lastCaller M j ≤ 16383 := hM.2.2.2.2.2.2.2.2.2.2.2.2.1
  have hM_callers : 0 ≤ m_callers M ∧ m_callers M ≤ 16384 := hM.2.2.2.2.2.2.2.2.2.2.2.2.2.1
  have hM_known : 0 ≤ m_known M ∧ m_known M ≤ 1 := hM.2.2.2.2.2.2.2.2.2.2.2.2.2.2.1
  have hM_loose : ∀ j : Int, 0 ≤ j → j < 24 → 0 ≤ m_loose M j ∧ m_loose M j ≤ 255 := hM.2.2.2.2.2.2.2.2.2.2.2.2.2.2.2.1
  have hM_stack : ∀ j : Int, 0 ≤ j → j < 8000 → 0 ≤ m_stack M j ∧ m_stack M j ≤ 6143 := hM.2.2.2.2.2.2.2.2.2.2.2.2.2.2.2.2.1
  have hM_high : 0 ≤ m_high M ∧ m_high M ≤ 8000 := hM.2.2.2.2.2.2.2.2.2.2.2.2.2.2.2.2.2.1
  have hM_pairs : ∀ j : Int, 0 ≤ j → j < 1000 → 0 ≤ m_pairs M j ∧ m_pairs M j ≤ 239 := hM.2.2.2.2.2.2.2.2.2.2.2.2.2.2.2.2.2.2.1
  have hM_told : 0 ≤ m_told M ∧ m_told M ≤ 1000 := hM.2.2.2.2.2.2.2.2.2.2.2.2.2.2.2.2.2.2.2.1
  have hM_text : ∀ j : Int, 0 ≤ j → j < 120 → 0 ≤ m_text M j ∧ m_text M j ≤ 127 := hM.2.2.2.2.2.2.2.2.2.2.2.2.2.2.2.2.2.2.2.2.1
  have hM_typed : 0 ≤ m_typed M ∧ m_typed M ≤ 120 := hM.2.2.2.2.2.2.2.2.2.2.2.2.2.2.2.2.2.2.2.2.2.1
  have hM_orders : ∀ j : Int, 0 ≤ j → j < 300 → 0 ≤ m_orders M j ∧ m_orders M j ≤ 999 := hM.2.2.2.2.2.2.2.2.2.2.2.2.2.2.2.2.2.2.2.2.2.2.1
  have hM_written : 0 ≤ m_written M ∧ m_written M ≤ 60 := hM.2.2.2.2.2.2.2.2.2.2.2.2.2.2.2.2.2.2.2.2.2.2.2.1
  have hM_look : 0 ≤ m_look M ∧ m_look M ≤ 120 := hM.2.2.2.2.2.2.2.2.2.2.2.2.2.2.2.2.2.2.2.2.2.2.2.2
  have hN_0 := hN.1
  have hN_1 := hN.2.1
  have hN_2 := hN.2.2.1
  have hN_3 := hN.2.2.2.1
  refine r_iconst (z := 0) C dX5_fills_0 rfl ?_
  refine r_istore_n C [(1, .int (iI (0))), (0, .ref (o))] dX5_fills_1 hl (by decide) rfl (fun ls hl => ?_)
  have hloop2 : ∀ (k2 : Nat) (t : Int) (X : Md) (hkk : t + k2 = 1536) (ht : 0 ≤ t) (hXw : wV (m_now M) t X) (hXo : mOk X) (hq : mFl 1536 0 M = mFl k2 t X) (H : Heap) (locs : List Loc) (ls : Array Slot), HW g A zs.heap (mF g o ad (m_refused X) (m_now X) (m_kept X) (m_states X) (m_place X) (m_startFact X) (m_node X) (m_fact X) (m_ahead X) (m_inside X) (m_entries X) (m_caller X) (m_following X) (m_firstCaller X) (m_lastCaller X) (m_callers X) (m_known X) (m_loose X) (m_stack X) (m_high X) (m_pairs X) (m_told X) (m_text X) (m_typed X) (m_orders X) (m_written X) (m_look X)) H locs → lv_has ls 2 [(0, .ref (o)), (1, .int (iI (t)))] → W zp l ze (rmm 5 126) zs zm (List.toArray [.ref (o)]) zb zt zc H locs 0 0 (MQ zb (QW g (mF g o ad (m_refused M) (m_now M) (m_kept M) (m_states M) (m_place M) (m_startFact M) (m_node M) (m_fact M) (m_ahead M) (m_inside M) (m_entries M) (m_caller M) (m_following M) (m_firstCaller M) (m_lastCaller M) (m_callers M) (m_known M) (m_loose M) (m_stack M) (m_high M) (m_pairs M) (m_told M) (m_text M) (m_typed M) (m_orders M) (m_written M) (m_look M)) (mF g o ad (m_refused (mFl 1536 0 M)) (m_now (mFl 1536 0 M)) (m_kept (mFl 1536 0 M)) (m_states (mFl 1536 0 M)) (m_place (mFl 1536 0 M)) (m_startFact (mFl 1536 0 M)) (m_node (mFl 1536 0 M)) (m_fact (mFl 1536 0 M)) (m_ahead (mFl 1536 0 M)) (m_inside (mFl 1536 0 M)) (m_entries (mFl 1536 0 M)) (m_caller (mFl 1536 0 M)) (m_following (mFl 1536 0 M)) (m_firstCaller (mFl 1536 0 M)) (m_lastCaller (mFl 1536 0 M)) (m_callers (mFl 1536 0 M)) (m_known (mFl 1536 0 M)) (m_loose (mFl 1536 0 M)) (m_stack (mFl 1536 0 M)) (m_high (mFl 1536 0 M)) (m_pairs (mFl 1536 0 M)) (m_told (mFl 1536 0 M)) (m_text (mFl 1536 0 M)) (m_typed (mFl 1536 0 M)) (m_orders (mFl 1536 0 M)) (m_written (mFl 1536 0 M)) (m_look (mFl 1536 0 M))) zs.heap.size none) (List.toArray [.ref (o)]) zs 0 0 A) (F0 zm 2 ls []) := by
    intro k2
    induction k2 with
    | zero =>
      intro t X hkk ht hXw hXo hq H locs ls hW hl
      obtain ⟨hXo_refused, hXo_states, hXo_place, hXo_startFact, hXo_node, hXo_fact, hXo_ahead, hXo_inside, hXo_entries, hXo_caller, hXo_following, hXo_firstCaller, hXo_lastCaller, hXo_callers, hXo_known, hXo_loose, hXo_stack, hXo_high, hXo_pairs, hXo_told, hXo_text, hXo_typed, hXo_orders, hXo_written, hXo_look⟩ := id hXo
      have hXn : m_now X = m_now M := hXw.1.2.2.1
      have hXN : nOk (m_now X) := by rw [hXn]; exact hN
      have hXc : mC X := hXw.1.1
      have hXr : mOrd X := vV_ord hXw.1
      refine r_iload_n C dX5_fills_2 hl 1 rfl ?_
      refine r_aload_n C dX5_fills_3 hl 0 rfl ?_
      refine r_get (v := .int (iI (m_entries X))) C f_X5_155 hW.1 0 rfl rfl dX5_fills_4 ?_
      refine r_icmp_ge C 21 dX5_fills_7 (by decide) (by omega) (by omega) (fun hc1 => ?_) (fun hc1 => ?_)
      · skip
        exact MW_vret C hAe hrt hlk hW dX5_fills_21 rfl (by rw [show mFl 1536 0 M = X from (by rw [hq]; first | exact if_neg (by omega) | rfl)])
      · exact absurd hc1 (by omega)
    | succ k2 ih2 =>
      intro t X hkk ht hXw hXo hq H locs ls hW hl
      obtain ⟨hXo_refused, hXo_states, hXo_place, hXo_startFact, hXo_node, hXo_fact, hXo_ahead, hXo_inside, hXo_entries, hXo_caller, hXo_following, hXo_firstCaller, hXo_lastCaller, hXo_callers, hXo_known, hXo_loose, hXo_stack, hXo_high, hXo_pairs, hXo_told, hXo_text, hXo_typed, hXo_orders, hXo_written, hXo_look⟩ := id hXo
      have hXn : m_now X = m_now M := hXw.1.2.2.1
      have hXN : nOk (m_now X) := by rw [hXn]; exact hN
      have hXc : mC X := hXw.1.1
      have hXr : mOrd X := vV_ord hXw.1
      refine r_iload_n C dX5_fills_2 hl 1 rfl ?_
      refine r_aload_n C dX5_fills_3 hl 0 rfl ?_
      refine r_get (v := .int (iI (m_entries X))) C f_X5_155 hW.1 0 rfl rfl dX5_fills_4 ?_
      refine r_icmp_ge C 21 dX5_fills_7 (by decide) (by omega) (by omega) (fun hc2 => ?_) (fun hc2 => ?_)
      · skip
        exact MW_vret C hAe hrt hlk hW dX5_fills_21 rfl (by rw [show mFl 1536 0 M = X from (by rw [hq]; first | exact if_neg (by omega) | rfl)])
      · skip
        refine r_aload_n C dX5_fills_10 hl 0 rfl ?_
        refine r_iload_n C dX5_fills_11 hl 1 rfl ?_
        refine r_callW (rest := []) (r := none) (wr := []) (ws2 := mF g o ad (m_refused (mTE t X)) (m_now (mTE t X)) (m_kept (mTE t X)) (m_states (mTE t X)) (m_place (mTE t X)) (m_startFact (mTE t X)) (m_node (mTE t X)) (m_fact (mTE t X)) (m_ahead (mTE t X)) (m_inside (mTE t X)) (m_entries (mTE t X)) (m_caller (mTE t X)) (m_following (mTE t X)) (m_firstCaller (mTE t X)) (m_lastCaller (mTE t X)) (m_callers (mTE t X)) (m_known (mTE t X)) (m_loose (mTE t X)) (m_stack (mTE t X)) (m_high (mTE t X)) (m_pairs (mTE t X)) (m_told (mTE t X)) (m_text (mTE t X)) (m_typed (mTE t X)) (m_orders (mTE t X)) (m_written (mTE t X)) (m_look (mTE t X))) (st1 := []) C hl.1 hW hA (c_X5_takesEntry l g o ad (m_refused X) (m_now X) (m_kept X) (m_states X) (m_place X) (m_startFact X) (m_node X) (m_fact X) (m_ahead X) (m_inside X) (m_entries X) (m_caller X) (m_following X) (m_firstCaller X) (m_lastCaller X) (m_callers X) (m_known X) (m_loose X) (m_stack X) (m_high X) (m_pairs X) (m_told X) (m_text X) (m_typed X) (m_orders X) (m_written X) (m_look X) t (by assumption) (by assumption) (by assumption) (by assumption) (show 0 ≤ t ∧ t < 1536 by omega) (by have h9 := (wV_TE hN hWf hXw (by omega)).1; rw [hXn]; exact h9)) v_X5_179 rfl [0, 1, 2, 3, 4, 5, 6, 7, 8, 9, 10, 11, 12, 13, 14, 15, 16, 17, 18] [] [0, 1, 2, 3, 4, 5, 6, 7, 8, 9, 10, 11, 12, 13, 14, 15, 16, 17, 18] rfl rfl (by decide) (by decide) rfl rfl 0 rfl rfl rfl (by decide) (by decide) (Nat.le_of_ble_eq_true rfl) dX5_fills_12 rfl rfl (fun H locs hW => ?_)
        refine r_iinc (v := t + 1) C [(1, .int (iI (t + 1))), (0, .ref (o))] dX5_fills_15 hl 1 rfl (by decide) (by omega) rfl (fun ls hl => ?_)
        refine r_goto C 2 dX5_fills_18 (by decide) ?_
        have hS := wV_TE hN hWf hXw (by omega)
        exact ih2 (t + 1) (mTE t X) (by omega) (by omega) hS.2.2.1 hS.2.2.1.1.2.1 (by rw [hq]; exact if_pos (by omega)) _ _ ls hW (lv_sub hl [1, 0] rfl)
  exact hloop2 1536 0 M (by omega) (by omega) hV hM rfl _ _ ls hW (lv_sub hl [1, 0] rfl)
set_option maxHeartbeats 4000000 in
set_option maxRecDepth 100000 in
theorem c_X5_knows (l : Launch) (g : GG) (o : Nat) (ad : Nat → Nat) (M : Md) (K : Md) (hM : mOk M) (hN : nOk (m_now M)) (hWf : nWf (m_now M)) (hK : mKn M = K) : MW l g yX5_knows cX5_knows 2 none 6 147 [.ref (o)] (mF g o ad (m_refused M) (m_now M) (m_kept M) (m_states M) (m_place M) (m_startFact M) (m_node M) (m_fact M) (m_ahead M) (m_inside M) (m_entries M) (m_caller M) (m_following M) (m_firstCaller M) (m_lastCaller M) (m_callers M) (m_known M) (m_loose M) (m_stack M) (m_high M) (m_pairs M) (m_told M) (m_text M) (m_typed M) (m_orders M) (m_written M) (m_look M)) (mF g o ad (m_refused K) (m_now K) (m_kept K) (m_states K) (m_place K) (m_startFact K) (m_node K) (m_fact K) (m_ahead K) (m_inside K) (m_entries K) (m_caller K) (m_following K) (m_firstCaller K) (m_lastCaller K) (m_callers K) (m_known K) (m_loose K) (m_stack K) (m_high K) (m_pairs K) (m_told K) (m_text K) (m_typed K) (m_orders K) (m_written K) (m_look K)) none := by
  refine MW_start (by decide) (Nat.le_of_ble_eq_true rfl) ?_
  intro zp ze zs zm zb zt zc A hAe C hrt hlk hW ls hl
  have hA : ∀ q, zs.heap.size ≤ q → A q := fun q h => by rw [hAe]; exact Or.inr h
  have hl : lv_has ls 2 [(0, .ref (o))] := hl
  have hM_refused : ∀ j : Int, 0 ≤ j → j < 3 → 0 ≤ m_refused M j ∧ m_refused M j ≤ 1000000 := hM.1
  have hM_states : 0 ≤ m_states M ∧ m_states M ≤ 5 := hM.2.1
  have hM_place : ∀ j : Int, 0 ≤ j → j < 1536 → 0 ≤ m_place M j ∧ m_place M j ≤ 1536 := hM.2.2.1
  have hM_startFact : ∀ j : Int, 0 ≤ j → j < 1536 → 0 ≤ m_startFact M j ∧ m_startFact M j ≤ 7 := hM.2.2.2.1
  have hM_node : ∀ j : Int, 0 ≤ j → j < 1536 → 0 ≤ m_node M j ∧ m_node M j ≤ 23 := hM.2.2.2.2.1
  have hM_fact : ∀ j : Int, 0 ≤ j → j < 1536 → 0 ≤ m_fact M j ∧ m_fact M j ≤ 7 := hM.2.2.2.2.2.1
  have hM_ahead : ∀ j : Int, 0 ≤ j → j < 1536 → -1 ≤ m_ahead M j ∧ m_ahead M j ≤ 1535 := hM.2.2.2.2.2.2.1
  have hM_inside : ∀ j : Int, 0 ≤ j → j < 1536 → -1 ≤ m_inside M j ∧ m_inside M j ≤ 1535 := hM.2.2.2.2.2.2.2.1
  have hM_entries : 0 ≤ m_entries M ∧ m_entries M ≤ 1536 := hM.2.2.2.2.2.2.2.2.1
  have hM_caller : ∀ j : Int, 0 ≤ j → j < 16384 → 0 ≤ m_caller M j ∧ m_caller M j ≤ 49151 := hM.2.2.2.2.2.2.2.2.2.1
  have hM_following : ∀ j : Int, 0 ≤ j → j < 16384 → -1 ≤ m_following M j ∧ m_following M j ≤ 16383 := hM.2.2.2.2.2.2.2.2.2.2.1
  have hM_firstCaller : ∀ j : Int, 0 ≤ j → j < 40 → -1 ≤ m_firstCaller M j ∧ m_firstCaller M j ≤ 16383 := hM.2.2.2.2.2.2.2.2.2.2.2.1
  have hM_lastCaller : ∀ j : Int, 0 ≤ j → j < 40 → -1 ≤ m_lastCaller M j ∧ m_lastCaller M j ≤ 16383 := hM.2.2.2.2.2.2.2.2.2.2.2.2.1
  have hM_callers : 0 ≤ m_callers M ∧ m_callers M ≤ 16384 := hM.2.2.2.2.2.2.2.2.2.2.2.2.2.1
  have hM_known : 0 ≤ m_known M ∧ m_known M ≤ 1 := hM.2.2.2.2.2.2.2.2.2.2.2.2.2.2.1
  have hM_loose : ∀ j : Int, 0 ≤ j → j < 24 → 0 ≤ m_loose M j ∧ m_loose M j ≤ 255 := hM.2.2.2.2.2.2.2.2.2.2.2.2.2.2.2.1
  have hM_stack : ∀ j : Int, 0 ≤ j → j < 8000 → 0 ≤ m_stack M j ∧ m_stack M j ≤ 6143 := hM.2.2.2.2.2.2.2.2.2.2.2.2.2.2.2.2.1
  have hM_high : 0 ≤ m_high M ∧ m_high M ≤ 8000 := hM.2.2.2.2.2.2.2.2.2.2.2.2.2.2.2.2.2.1
  have hM_pairs : ∀ j : Int, 0 ≤ j → j < 1000 → 0 ≤ m_pairs M j ∧ m_pairs M j ≤ 239 := hM.2.2.2.2.2.2.2.2.2.2.2.2.2.2.2.2.2.2.1
  have hM_told : 0 ≤ m_told M ∧ m_told M ≤ 1000 := hM.2.2.2.2.2.2.2.2.2.2.2.2.2.2.2.2.2.2.2.1
  have hM_text : ∀ j : Int, 0 ≤ j → j < 120 → 0 ≤ m_text M j ∧ m_text M j ≤ 127 := hM.2.2.2.2.2.2.2.2.2.2.2.2.2.2.2.2.2.2.2.2.1
  have hM_typed : 0 ≤ m_typed M ∧ m_typed M ≤ 120 := hM.2.2.2.2.2.2.2.2.2.2.2.2.2.2.2.2.2.2.2.2.2.1
  have hM_orders : ∀ j : Int, 0 ≤ j → j < 300 → 0 ≤ m_orders M j ∧ m_orders M j ≤ 999 := hM.2.2.2.2.2.2.2.2.2.2.2.2.2.2.2.2.2.2.2.2.2.2.1
  have hM_written : 0 ≤ m_written M ∧ m_written M ≤ 60 := hM.2.2.2.2.2.2.2.2.2.2.2.2.2.2.2.2.2.2.2.2.2.2.2.1
  have hM_look : 0 ≤ m_look M ∧ m_look M ≤ 120 := hM.2.2.2.2.2.2.2.2.2.2.2.2.2.2.2.2.2.2.2.2.2.2.2.2
  have hN_0 := hN.1
  have hN_1 := hN.2.1
  have hN_2 := hN.2.2.1
  have hN_3 := hN.2.2.2.1
  have hn4 : 0 ≤ m_now M 4 ∧ m_now M 4 < m_now M 1 := ⟨(nEnd_q (m_now M) 4 hN (by omega)).1, (hWf.2.1 0 (by omega) (by have := hWf.1; omega)).1⟩
  refine r_aload_n C dX5_knows_0 hl 0 rfl ?_
  refine r_get (v := .int (iI (m_known M))) C f_X5_77 hW.1 0 rfl rfl dX5_knows_1 ?_
  refine r_if_ne C 62 dX5_knows_4 (by decide) (by omega) (fun hc1 => ?_) (fun hc1 => ?_)
  · skip
    have hE : mKn M = M := if_neg hc1
    exact MW_vret C hAe hrt hlk hW dX5_knows_62 rfl (by rw [← hK, hE])
  · skip
    refine r_aload_n C dX5_knows_7 hl 0 rfl ?_
    refine r_callW (rest := []) (r := none) (wr := []) (ws2 := mF g o ad (m_refused M) (m_now M) (m_kept M) (m_states M) (cPl ((m_place M))) (m_startFact M) (m_node M) (m_fact M) (m_ahead M) (m_inside M) 0 (m_caller M) (m_following M) (cCa ((m_firstCaller M))) (cCa ((m_lastCaller M))) 0 (m_known M) (m_loose M) (m_stack M) (m_high M) (m_pairs M) (m_told M) (m_text M) (m_typed M) (m_orders M) (m_written M) (m_look M)) (st1 := []) C hl.1 hW hA (c_X5_clearTable l g o ad (m_refused M) (m_now M) (m_kept M) (m_states M) (m_place M) (m_startFact M) (m_node M) (m_fact M) (m_ahead M) (m_inside M) (m_entries M) (m_caller M) (m_following M) (m_firstCaller M) (m_lastCaller M) (m_callers M) (m_known M) (m_loose M) (m_stack M) (m_high M) (m_pairs M) (m_told M) (m_text M) (m_typed M) (m_orders M) (m_written M) (m_look M)) v_X5_182 rfl [0, 1, 2, 3, 4, 5, 6, 7, 8, 9, 10, 11, 12, 13, 14, 15, 16, 17, 18] [] [0, 1, 2, 3, 4, 5, 6, 7, 8, 9, 10, 11, 12, 13, 14, 15, 16, 17, 18] rfl rfl (by decide) (by decide) rfl rfl 0 rfl rfl rfl (by decide) (by decide) (Nat.le_of_ble_eq_true rfl) dX5_knows_8 rfl rfl (fun H locs hW => ?_)
    rw [cPl_z, cCa_z, cCa_z] at hW
    refine r_iconst (z := 0) C dX5_knows_11 rfl ?_
    refine r_istore_n C [(1, .int (iI (0))), (0, .ref (o))] dX5_knows_12 hl (by decide) rfl (fun ls hl => ?_)
    have hloop13 : ∀ (k13 : Nat) (a : Int) (X : Md) (hkk : a + k13 = 8) (ha : 0 ≤ a) (hXv : vV (m_now M) X) (hXo : mOk X) (hq : mSeeds (m_now M 4) (m_now M 3) M = it (mSeedF (m_now M 4) (m_now M 3)) k13 a X) (H : Heap) (locs : List Loc) (ls : Array Slot), HW g A zs.heap (mF g o ad (m_refused X) (m_now X) (m_kept X) (m_states X) (m_place X) (m_startFact X) (m_node X) (m_fact X) (m_ahead X) (m_inside X) (m_entries X) (m_caller X) (m_following X) (m_firstCaller X) (m_lastCaller X) (m_callers X) (m_known X) (m_loose X) (m_stack X) (m_high X) (m_pairs X) (m_told X) (m_text X) (m_typed X) (m_orders X) (m_written X) (m_look X)) H locs → lv_has ls 2 [(0, .ref (o)), (1, .int (iI (a)))] → W zp l ze (rmm 6 147) zs zm (List.toArray [.ref (o)]) zb zt zc H locs 0 0 (MQ zb (QW g (mF g o ad (m_refused M) (m_now M) (m_kept M) (m_states M) (m_place M) (m_startFact M) (m_node M) (m_fact M) (m_ahead M) (m_inside M) (m_entries M) (m_caller M) (m_following M) (m_firstCaller M) (m_lastCaller M) (m_callers M) (m_known M) (m_loose M) (m_stack M) (m_high M) (m_pairs M) (m_told M) (m_text M) (m_typed M) (m_orders M) (m_written M) (m_look M)) (mF g o ad (m_refused K) (m_now K) (m_kept K) (m_states K) (m_place K) (m_startFact K) (m_node K) (m_fact K) (m_ahead K) (m_inside K) (m_entries K) (m_caller K) (m_following K) (m_firstCaller K) (m_lastCaller K) (m_callers K) (m_known K) (m_loose K) (m_stack K) (m_high K) (m_pairs K) (m_told K) (m_text K) (m_typed K) (m_orders K) (m_written K) (m_look K)) zs.heap.size none) (List.toArray [.ref (o)]) zs 0 0 A) (F0 zm 13 ls []) := by
      intro k13
      induction k13 with
      | zero =>
        intro a X hkk ha hXv hXo hq H locs ls hW hl
        obtain ⟨hXo_refused, hXo_states, hXo_place, hXo_startFact, hXo_node, hXo_fact, hXo_ahead, hXo_inside, hXo_entries, hXo_caller, hXo_following, hXo_firstCaller, hXo_lastCaller, hXo_callers, hXo_known, hXo_loose, hXo_stack, hXo_high, hXo_pairs, hXo_told, hXo_text, hXo_typed, hXo_orders, hXo_written, hXo_look⟩ := id hXo
        have hXn : m_now X = m_now M := hXv.2.2.1
        have hXN : nOk (m_now X) := by rw [hXn]; exact hN
        refine r_iload_n C dX5_knows_13 hl 1 rfl ?_
        refine r_bipush (z := 8) C dX5_knows_14 rfl ?_
        refine r_icmp_ge C 53 dX5_knows_16 (by decide) (by omega) (by omega) (fun hc2 => ?_) (fun hc2 => ?_)
        · skip
          have hq0 : mSeeds (m_now M 4) (m_now M 3) M = X := hq
          have hXW : nWf (m_now X) := by rw [hXn]; exact hWf
          have hXV : wV (m_now X) 0 X := by rw [hXn, ← hq0]; exact (wV_seeds hN hM rfl hn4).1
          refine r_aload_n C dX5_knows_53 hl 0 rfl ?_
          refine r_callW (rest := []) (r := none) (wr := []) (ws2 := mF g o ad (m_refused (mFl 1536 0 X)) (m_now (mFl 1536 0 X)) (m_kept (mFl 1536 0 X)) (m_states (mFl 1536 0 X)) (m_place (mFl 1536 0 X)) (m_startFact (mFl 1536 0 X)) (m_node (mFl 1536 0 X)) (m_fact (mFl 1536 0 X)) (m_ahead (mFl 1536 0 X)) (m_inside (mFl 1536 0 X)) (m_entries (mFl 1536 0 X)) (m_caller (mFl 1536 0 X)) (m_following (mFl 1536 0 X)) (m_firstCaller (mFl 1536 0 X)) (m_lastCaller (mFl 1536 0 X)) (m_callers (mFl 1536 0 X)) (m_known (mFl 1536 0 X)) (m_loose (mFl 1536 0 X)) (m_stack (mFl 1536 0 X)) (m_high (mFl 1536 0 X)) (m_pairs (mFl 1536 0 X)) (m_told (mFl 1536 0 X)) (m_text (mFl 1536 0 X)) (m_typed (mFl 1536 0 X)) (m_orders (mFl 1536 0 X)) (m_written (mFl 1536 0 X)) (m_look (mFl 1536 0 X))) (st1 := []) C hl.1 hW hA (c_X5_fills l g o ad X  (by assumption) (by assumption) (by assumption) (by assumption)) v_X5_185 rfl [0, 1, 2, 3, 4, 5, 6, 7, 8, 9, 10, 11, 12, 13, 14, 15, 16, 17, 18] [] [0, 1, 2, 3, 4, 5, 6, 7, 8, 9, 10, 11, 12, 13, 14, 15, 16, 17, 18] rfl rfl (by decide) (by decide) rfl rfl 0 rfl rfl rfl (by decide) (by decide) (Nat.le_of_ble_eq_true rfl) dX5_knows_54 rfl rfl (fun H locs hW => ?_)
          refine r_aload_n C dX5_knows_57 hl 0 rfl ?_
          refine r_iconst (z := 1) C dX5_knows_58 rfl ?_
          refine r_put C f_X5_77 fp_5_16 hW (mF g o ad (m_refused (mFl 1536 0 X)) (m_now (mFl 1536 0 X)) (m_kept (mFl 1536 0 X)) (m_states (mFl 1536 0 X)) (m_place (mFl 1536 0 X)) (m_startFact (mFl 1536 0 X)) (m_node (mFl 1536 0 X)) (m_fact (mFl 1536 0 X)) (m_ahead (mFl 1536 0 X)) (m_inside (mFl 1536 0 X)) (m_entries (mFl 1536 0 X)) (m_caller (mFl 1536 0 X)) (m_following (mFl 1536 0 X)) (m_firstCaller (mFl 1536 0 X)) (m_lastCaller (mFl 1536 0 X)) (m_callers (mFl 1536 0 X)) 1 (m_loose (mFl 1536 0 X)) (m_stack (mFl 1536 0 X)) (m_high (mFl 1536 0 X)) (m_pairs (mFl 1536 0 X)) (m_told (mFl 1536 0 X)) (m_text (mFl 1536 0 X)) (m_typed (mFl 1536 0 X)) (m_orders (mFl 1536 0 X)) (m_written (mFl 1536 0 X)) (m_look (mFl 1536 0 X))) 0 rfl (by decide) (by decide) (Nat.le_of_ble_eq_true rfl) rfl dX5_knows_59 (fun H locs hW => ?_)
          have hE : mKn M = (m_refused (mFl 1536 0 X), m_now (mFl 1536 0 X), m_kept (mFl 1536 0 X), m_states (mFl 1536 0 X), m_place (mFl 1536 0 X), m_startFact (mFl 1536 0 X), m_node (mFl 1536 0 X), m_fact (mFl 1536 0 X), m_ahead (mFl 1536 0 X), m_inside (mFl 1536 0 X), m_entries (mFl 1536 0 X), m_caller (mFl 1536 0 X), m_following (mFl 1536 0 X), m_firstCaller (mFl 1536 0 X), m_lastCaller (mFl 1536 0 X), m_callers (mFl 1536 0 X), 1, m_loose (mFl 1536 0 X), m_stack (mFl 1536 0 X), m_high (mFl 1536 0 X), m_pairs (mFl 1536 0 X), m_told (mFl 1536 0 X), m_text (mFl 1536 0 X), m_typed (mFl 1536 0 X), m_orders (mFl 1536 0 X), m_written (mFl 1536 0 X), m_look (mFl 1536 0 X)) := by rw [show mKn M = ms_known (mFilled (m_now M 4) (m_now M 3) M) 1 from if_pos (by omega)]; unfold mFilled; rw [hq0]
          exact MW_vret C hAe hrt hlk hW dX5_knows_62 rfl (by rw [← hK, hE])
        · exact absurd hc2 (by omega)
      | succ k13 ih13 =>
        intro a X hkk ha hXv hXo hq H locs ls hW hl
        obtain ⟨hXo_refused, hXo_states, hXo_place, hXo_startFact, hXo_node, hXo_fact, hXo_ahead, hXo_inside, hXo_entries, hXo_caller, hXo_following, hXo_firstCaller, hXo_lastCaller, hXo_callers, hXo_known, hXo_loose, hXo_stack, hXo_high, hXo_pairs, hXo_told, hXo_text, hXo_typed, hXo_orders, hXo_written, hXo_look⟩ := id hXo
        have hXn : m_now X = m_now M := hXv.2.2.1
        have hXN : nOk (m_now X) := by rw [hXn]; exact hN
        refine r_iload_n C dX5_knows_13 hl 1 rfl ?_
        refine r_bipush (z := 8) C dX5_knows_14 rfl ?_
        refine r_icmp_ge C 53 dX5_knows_16 (by decide) (by omega) (by omega) (fun hc3 => ?_) (fun hc3 => ?_)
        · exact absurd hc3 (by omega)
        · skip
          refine r_aload_n C dX5_knows_19 hl 0 rfl ?_
          refine r_get (v := .ref (ad 1)) C f_X5_13 hW.1 0 rfl rfl dX5_knows_20 ?_
          refine r_iconst (z := 3) C dX5_knows_23 rfl ?_
          refine r_iald (f := m_now X) C hW.1 2 rfl (Nat.le_of_ble_eq_true rfl) (by omega) dX5_knows_24 ?_
          have hr4 := hXN.2.2.2.1
          refine r_iload_n C dX5_knows_25 hl 1 rfl ?_
          refine r_ishr C (by omega) (by omega) (by omega) (by omega) dX5_knows_26 ?_
          have hb5 : 0 ≤ (m_now X 3) / p2 a := Int.ediv_nonneg (by omega) (Int.le_of_lt (p2_0 _))
          refine r_iconst (z := 1) C dX5_knows_27 rfl ?_
          refine r_iand C (by omega) (by omega) dX5_knows_28 ?_
          have hb6 := bA_0 ((m_now X 3) / p2 a) 1
          have hb8 := Nat.and_le_right (n := ((m_now X 3) / p2 a).toNat) (m := (1 : Int).toNat); have hb7 : bA ((m_now X 3) / p2 a) 1 ≤ 1 := by unfold bA; omega
          refine r_iconst (z := 1) C dX5_knows_29 rfl ?_
          refine r_icmp_ne C 47 dX5_knows_30 (by decide) (by omega) (by omega) (fun hc9 => ?_) (fun hc9 => ?_)
          · skip
            refine r_iinc (v := a + 1) C [(1, .int (iI (a + 1))), (0, .ref (o))] dX5_knows_47 hl 1 rfl (by decide) (by omega) rfl (fun ls hl => ?_)
            refine r_goto C 13 dX5_knows_50 (by decide) ?_
            have hE : mSeedF (m_now M 4) (m_now M 3) a X = X := if_neg (by rw [← hXn]; exact hc9)
            have hS := vV_seedF (n := (m_now M 4)) (x := (m_now M 3)) (a := a) hN hXv hn4 (by omega)
            exact ih13 (a + 1) (mSeedF (m_now M 4) (m_now M 3) a X) (by omega) (by omega) hS.1 hS.1.2.1 (by rw [hq, it_s]) _ _ ls (by rw [hE]; exact hW) (lv_sub hl [1, 0] rfl)
          · skip
            refine r_aload_n C dX5_knows_33 hl 0 rfl ?_
            refine r_iload_n C dX5_knows_34 hl 1 rfl ?_
            refine r_aload_n C dX5_knows_35 hl 0 rfl ?_
            refine r_get (v := .ref (ad 1)) C f_X5_13 hW.1 0 rfl rfl dX5_knows_36 ?_
            refine r_iconst (z := 4) C dX5_knows_39 rfl ?_
            refine r_iald (f := m_now X) C hW.1 2 rfl (Nat.le_of_ble_eq_true rfl) (by omega) dX5_knows_40 ?_
            have hr10 := nEnd_q (m_now X) 4 hXN (by omega)
            refine r_iload_n C dX5_knows_41 hl 1 rfl ?_
            refine r_iconst (z := -1) C dX5_knows_42 rfl ?_
            refine r_iconst (z := -1) C dX5_knows_43 rfl ?_
            refine r_callW (rest := []) (r := none) (wr := []) (ws2 := mF g o ad (m_refused (mComes a (m_now X 4) a (-1) (-1) X)) (m_now (mComes a (m_now X 4) a (-1) (-1) X)) (m_kept (mComes a (m_now X 4) a (-1) (-1) X)) (m_states (mComes a (m_now X 4) a (-1) (-1) X)) (m_place (mComes a (m_now X 4) a (-1) (-1) X)) (m_startFact (mComes a (m_now X 4) a (-1) (-1) X)) (m_node (mComes a (m_now X 4) a (-1) (-1) X)) (m_fact (mComes a (m_now X 4) a (-1) (-1) X)) (m_ahead (mComes a (m_now X 4) a (-1) (-1) X)) (m_inside (mComes a (m_now X 4) a (-1) (-1) X)) (m_entries (mComes a (m_now X 4) a (-1) (-1) X)) (m_caller (mComes a (m_now X 4) a (-1) (-1) X)) (m_following (mComes a (m_now X 4) a (-1) (-1) X)) (m_firstCaller (mComes a (m_now X 4) a (-1) (-1) X)) (m_lastCaller (mComes a (m_now X 4) a (-1) (-1) X)) (m_callers (mComes a (m_now X 4) a (-1) (-1) X)) (m_known (mComes a (m_now X 4) a (-1) (-1) X)) (m_loose (mComes a (m_now X 4) a (-1) (-1) X)) (m_stack (mComes a (m_now X 4) a (-1) (-1) X)) (m_high (mComes a (m_now X 4) a (-1) (-1) X)) (m_pairs (mComes a (m_now X 4) a (-1) (-1) X)) (m_told (mComes a (m_now X 4) a (-1) (-1) X)) (m_text (mComes a (m_now X 4) a (-1) (-1) X)) (m_typed (mComes a (m_now X 4) a (-1) (-1) X)) (m_orders (mComes a (m_now X 4) a (-1) (-1) X)) (m_written (mComes a (m_now X 4) a (-1) (-1) X)) (m_look (mComes a (m_now X 4) a (-1) (-1) X))) (st1 := []) C hl.1 hW hA (c_X5_comes l g o ad (m_refused X) (m_now X) (m_kept X) (m_states X) (m_place X) (m_startFact X) (m_node X) (m_fact X) (m_ahead X) (m_inside X) (m_entries X) (m_caller X) (m_following X) (m_firstCaller X) (m_lastCaller X) (m_callers X) (m_known X) (m_loose X) (m_stack X) (m_high X) (m_pairs X) (m_told X) (m_text X) (m_typed X) (m_orders X) (m_written X) (m_look X) a (m_now X 4) a (-1) (-1) (by assumption) (show 0 ≤ a ∧ a < 8 by omega) (show 0 ≤ (m_now X 4) ∧ (m_now X 4) < 24 by omega) (show 0 ≤ a ∧ a < 8 by omega) (fun hp => mC_lt hXv.1 (k := (8 * m_now X 4 + a) * 8 + a) (by omega) (by omega) hp)) v_X5_164 rfl [0, 1, 2, 3, 4, 5, 6, 7, 8, 9, 10, 11, 12, 13, 14, 15, 16, 17, 18] [] [0, 1, 2, 3, 4, 5, 6, 7, 8, 9, 10, 11, 12, 13, 14, 15, 16, 17, 18] rfl rfl (by decide) (by decide) rfl rfl 0 rfl rfl rfl (by decide) (by decide) (Nat.le_of_ble_eq_true rfl) dX5_knows_44 rfl rfl (fun H locs hW => ?_)
            refine r_iinc (v := a + 1) C [(1, .int (iI (a + 1))), (0, .ref (o))] dX5_knows_47 hl 1 rfl (by decide) (by omega) rfl (fun ls hl => ?_)
            refine r_goto C 13 dX5_knows_50 (by decide) ?_
            have hE : mSeedF (m_now M 4) (m_now M 3) a X = mComes a (m_now X 4) a (-1) (-1) X := by rw [hXn]; exact if_pos (by rw [← hXn]; omega)
            have hS := vV_seedF (n := (m_now M 4)) (x := (m_now M 3)) (a := a) hN hXv hn4 (by omega)
            exact ih13 (a + 1) (mSeedF (m_now M 4) (m_now M 3) a X) (by omega) (by omega) hS.1 hS.1.2.1 (by rw [hq, it_s]) _ _ ls (by rw [hE]; exact hW) (lv_sub hl [1, 0] rfl)
    exact hloop13 8 0 (mClr M) (by omega) (by omega) (mClr_v hM rfl) (mClr_ok hM) rfl _ _ ls hW (lv_sub hl [1, 0] rfl)
set_option maxHeartbeats 4000000 in
set_option maxRecDepth 100000 in
theorem c_X5_countOf (l : Launch) (g : GG) (o : Nat) (ad : Nat → Nat) (M : Md) (w : Int) (K : Md) (hM : mOk M) (hN : nOk (m_now M)) (hWf : nWf (m_now M)) (hw : 0 ≤ w ∧ w ≤ 5) (hK : mKn M = K) : MW l g yX5_countOf cX5_countOf 4 (some .int) 7 168 [.ref (o), .int (iI (w))] (mF g o ad (m_refused M) (m_now M) (m_kept M) (m_states M) (m_place M) (m_startFact M) (m_node M) (m_fact M) (m_ahead M) (m_inside M) (m_entries M) (m_caller M) (m_following M) (m_firstCaller M) (m_lastCaller M) (m_callers M) (m_known M) (m_loose M) (m_stack M) (m_high M) (m_pairs M) (m_told M) (m_text M) (m_typed M) (m_orders M) (m_written M) (m_look M)) (mF g o ad (m_refused K) (m_now K) (m_kept K) (m_states K) (m_place K) (m_startFact K) (m_node K) (m_fact K) (m_ahead K) (m_inside K) (m_entries K) (m_caller K) (m_following K) (m_firstCaller K) (m_lastCaller K) (m_callers K) (m_known K) (m_loose K) (m_stack K) (m_high K) (m_pairs K) (m_told K) (m_text K) (m_typed K) (m_orders K) (m_written K) (m_look K)) (some (.int (iI (mCountOf K w)))) := by
  refine MW_start (by decide) (Nat.le_of_ble_eq_true rfl) ?_
  intro zp ze zs zm zb zt zc A hAe C hrt hlk hW ls hl
  have hA : ∀ q, zs.heap.size ≤ q → A q := fun q h => by rw [hAe]; exact Or.inr h
  have hl : lv_has ls 4 [(0, .ref (o)), (1, .int (iI (w)))] := hl
  have hM_refused : ∀ j : Int, 0 ≤ j → j < 3 → 0 ≤ m_refused M j ∧ m_refused M j ≤ 1000000 := hM.1
  have hM_states : 0 ≤ m_states M ∧ m_states M ≤ 5 := hM.2.1
  have hM_place : ∀ j : Int, 0 ≤ j → j < 1536 → 0 ≤ m_place M j ∧ m_place M j ≤ 1536 := hM.2.2.1
  have hM_startFact : ∀ j : Int, 0 ≤ j → j < 1536 → 0 ≤ m_startFact M j ∧ m_startFact M j ≤ 7 := hM.2.2.2.1
  have hM_node : ∀ j : Int, 0 ≤ j → j < 1536 → 0 ≤ m_node M j ∧ m_node M j ≤ 23 := hM.2.2.2.2.1
  have hM_fact : ∀ j : Int, 0 ≤ j → j < 1536 → 0 ≤ m_fact M j ∧ m_fact M j ≤ 7 := hM.2.2.2.2.2.1
  have hM_ahead : ∀ j : Int, 0 ≤ j → j < 1536 → -1 ≤ m_ahead M j ∧ m_ahead M j ≤ 1535 := hM.2.2.2.2.2.2.1
  have hM_inside : ∀ j : Int, 0 ≤ j → j < 1536 → -1 ≤ m_inside M j ∧ m_inside M j ≤ 1535 := hM.2.2.2.2.2.2.2.1
  have hM_entries : 0 ≤ m_entries M ∧ m_entries M ≤ 1536 := hM.2.2.2.2.2.2.2.2.1
  have hM_caller : ∀ j : Int, 0 ≤ j → j < 16384 → 0 ≤ m_caller M j ∧ m_caller M j ≤ 49151 := hM.2.2.2.2.2.2.2.2.2.1
  have hM_following : ∀ j : Int, 0 ≤ j → j < 16384 → -1 ≤ m_following M j ∧ m_following M j ≤ 16383 := hM.2.2.2.2.2.2.2.2.2.2.1
  have hM_firstCaller : ∀ j : Int, 0 ≤ j → j < 40 → -1 ≤ m_firstCaller M j ∧ m_firstCaller M j ≤ 16383 := hM.2.2.2.2.2.2.2.2.2.2.2.1
  have hM_lastCaller : ∀ j : Int, 0 ≤ j → j < 40 → -1 ≤ m_lastCaller M j ∧ m_lastCaller M j ≤ 16383 := hM.2.2.2.2.2.2.2.2.2.2.2.2.1
  have hM_callers : 0 ≤ m_callers M ∧ m_callers M ≤ 16384 := hM.2.2.2.2.2.2.2.2.2.2.2.2.2.1
  have hM_known : 0 ≤ m_known M ∧ m_known M ≤ 1 := hM.2.2.2.2.2.2.2.2.2.2.2.2.2.2.1
  have hM_loose : ∀ j : Int, 0 ≤ j → j < 24 → 0 ≤ m_loose M j ∧ m_loose M j ≤ 255 := hM.2.2.2.2.2.2.2.2.2.2.2.2.2.2.2.1
  have hM_stack : ∀ j : Int, 0 ≤ j → j < 8000 → 0 ≤ m_stack M j ∧ m_stack M j ≤ 6143 := hM.2.2.2.2.2.2.2.2.2.2.2.2.2.2.2.2.1
  have hM_high : 0 ≤ m_high M ∧ m_high M ≤ 8000 := hM.2.2.2.2.2.2.2.2.2.2.2.2.2.2.2.2.2.1
  have hM_pairs : ∀ j : Int, 0 ≤ j → j < 1000 → 0 ≤ m_pairs M j ∧ m_pairs M j ≤ 239 := hM.2.2.2.2.2.2.2.2.2.2.2.2.2.2.2.2.2.2.1
  have hM_told : 0 ≤ m_told M ∧ m_told M ≤ 1000 := hM.2.2.2.2.2.2.2.2.2.2.2.2.2.2.2.2.2.2.2.1
  have hM_text : ∀ j : Int, 0 ≤ j → j < 120 → 0 ≤ m_text M j ∧ m_text M j ≤ 127 := hM.2.2.2.2.2.2.2.2.2.2.2.2.2.2.2.2.2.2.2.2.1
  have hM_typed : 0 ≤ m_typed M ∧ m_typed M ≤ 120 := hM.2.2.2.2.2.2.2.2.2.2.2.2.2.2.2.2.2.2.2.2.2.1
  have hM_orders : ∀ j : Int, 0 ≤ j → j < 300 → 0 ≤ m_orders M j ∧ m_orders M j ≤ 999 := hM.2.2.2.2.2.2.2.2.2.2.2.2.2.2.2.2.2.2.2.2.2.2.1
  have hM_written : 0 ≤ m_written M ∧ m_written M ≤ 60 := hM.2.2.2.2.2.2.2.2.2.2.2.2.2.2.2.2.2.2.2.2.2.2.2.1
  have hM_look : 0 ≤ m_look M ∧ m_look M ≤ 120 := hM.2.2.2.2.2.2.2.2.2.2.2.2.2.2.2.2.2.2.2.2.2.2.2.2
  have hN_0 := hN.1
  have hN_1 := hN.2.1
  have hN_2 := hN.2.2.1
  have hN_3 := hN.2.2.2.1
  have hKk := mKn_ok hM hN hWf
  rw [hK] at hKk
  have hKo : mOk K := hKk.1
  have hKn : m_now K = m_now M := hKk.2
  have hKN : nOk (m_now K) := by rw [hKn]; exact hN
  have hKN_0 := hKN.1
  have hKN_1 := hKN.2.1
  have hKN_2 := hKN.2.2.1
  have hKN_3 := hKN.2.2.2.1
  have hKo_refused : ∀ j : Int, 0 ≤ j → j < 3 → 0 ≤ m_refused K j ∧ m_refused K j ≤ 1000000 := hKo.1
  have hKo_states : 0 ≤ m_states K ∧ m_states K ≤ 5 := hKo.2.1
  have hKo_place : ∀ j : Int, 0 ≤ j → j < 1536 → 0 ≤ m_place K j ∧ m_place K j ≤ 1536 := hKo.2.2.1
  have hKo_startFact : ∀ j : Int, 0 ≤ j → j < 1536 → 0 ≤ m_startFact K j ∧ m_startFact K j ≤ 7 := hKo.2.2.2.1
  have hKo_node : ∀ j : Int, 0 ≤ j → j < 1536 → 0 ≤ m_node K j ∧ m_node K j ≤ 23 := hKo.2.2.2.2.1
  have hKo_fact : ∀ j : Int, 0 ≤ j → j < 1536 → 0 ≤ m_fact K j ∧ m_fact K j ≤ 7 := hKo.2.2.2.2.2.1
  have hKo_ahead : ∀ j : Int, 0 ≤ j → j < 1536 → -1 ≤ m_ahead K j ∧ m_ahead K j ≤ 1535 := hKo.2.2.2.2.2.2.1
  have hKo_inside : ∀ j : Int, 0 ≤ j → j < 1536 → -1 ≤ m_inside K j ∧ m_inside K j ≤ 1535 := hKo.2.2.2.2.2.2.2.1
  have hKo_entries : 0 ≤ m_entries K ∧ m_entries K ≤ 1536 := hKo.2.2.2.2.2.2.2.2.1
  have hKo_caller : ∀ j : Int, 0 ≤ j → j < 16384 → 0 ≤ m_caller K j ∧ m_caller K j ≤ 49151 := hKo.2.2.2.2.2.2.2.2.2.1
  have hKo_following : ∀ j : Int, 0 ≤ j → j < 16384 → -1 ≤ m_following K j ∧ m_following K j ≤ 16383 := hKo.2.2.2.2.2.2.2.2.2.2.1
  have hKo_firstCaller : ∀ j : Int, 0 ≤ j → j < 40 → -1 ≤ m_firstCaller K j ∧ m_firstCaller K j ≤ 16383 := hKo.2.2.2.2.2.2.2.2.2.2.2.1
  have hKo_lastCaller : ∀ j : Int, 0 ≤ j → j < 40 → -1 ≤ m_lastCaller K j ∧ m_lastCaller K j ≤ 16383 := hKo.2.2.2.2.2.2.2.2.2.2.2.2.1
  have hKo_callers : 0 ≤ m_callers K ∧ m_callers K ≤ 16384 := hKo.2.2.2.2.2.2.2.2.2.2.2.2.2.1
  have hKo_known : 0 ≤ m_known K ∧ m_known K ≤ 1 := hKo.2.2.2.2.2.2.2.2.2.2.2.2.2.2.1
  have hKo_loose : ∀ j : Int, 0 ≤ j → j < 24 → 0 ≤ m_loose K j ∧ m_loose K j ≤ 255 := hKo.2.2.2.2.2.2.2.2.2.2.2.2.2.2.2.1
  have hKo_stack : ∀ j : Int, 0 ≤ j → j < 8000 → 0 ≤ m_stack K j ∧ m_stack K j ≤ 6143 := hKo.2.2.2.2.2.2.2.2.2.2.2.2.2.2.2.2.1
  have hKo_high : 0 ≤ m_high K ∧ m_high K ≤ 8000 := hKo.2.2.2.2.2.2.2.2.2.2.2.2.2.2.2.2.2.1
  have hKo_pairs : ∀ j : Int, 0 ≤ j → j < 1000 → 0 ≤ m_pairs K j ∧ m_pairs K j ≤ 239 := hKo.2.2.2.2.2.2.2.2.2.2.2.2.2.2.2.2.2.2.1
  have hKo_told : 0 ≤ m_told K ∧ m_told K ≤ 1000 := hKo.2.2.2.2.2.2.2.2.2.2.2.2.2.2.2.2.2.2.2.1
  have hKo_text : ∀ j : Int, 0 ≤ j → j < 120 → 0 ≤ m_text K j ∧ m_text K j ≤ 127 := hKo.2.2.2.2.2.2.2.2.2.2.2.2.2.2.2.2.2.2.2.2.1
  have hKo_typed : 0 ≤ m_typed K ∧ m_typed K ≤ 120 := hKo.2.2.2.2.2.2.2.2.2.2.2.2.2.2.2.2.2.2.2.2.2.1
  have hKo_orders : ∀ j : Int, 0 ≤ j → j < 300 → 0 ≤ m_orders K j ∧ m_orders K j ≤ 999 := hKo.2.2.2.2.2.2.2.2.2.2.2.2.2.2.2.2.2.2.2.2.2.2.1
  have hKo_written : 0 ≤ m_written K ∧ m_written K ≤ 60 := hKo.2.2.2.2.2.2.2.2.2.2.2.2.2.2.2.2.2.2.2.2.2.2.2.1
  have hKo_look : 0 ≤ m_look K ∧ m_look K ≤ 120 := hKo.2.2.2.2.2.2.2.2.2.2.2.2.2.2.2.2.2.2.2.2.2.2.2.2
  refine r_aload_n C dX5_countOf_0 hl 0 rfl ?_
  refine r_callW (rest := []) (r := none) (wr := []) (ws2 := mF g o ad (m_refused K) (m_now K) (m_kept K) (m_states K) (m_place K) (m_startFact K) (m_node K) (m_fact K) (m_ahead K) (m_inside K) (m_entries K) (m_caller K) (m_following K) (m_firstCaller K) (m_lastCaller K) (m_callers K) (m_known K) (m_loose K) (m_stack K) (m_high K) (m_pairs K) (m_told K) (m_text K) (m_typed K) (m_orders K) (m_written K) (m_look K)) (st1 := []) C hl.1 hW hA (c_X5_knows l g o ad M K (by assumption) (by assumption) (by assumption) (by assumption)) v_X5_188 rfl [0, 1, 2, 3, 4, 5, 6, 7, 8, 9, 10, 11, 12, 13, 14, 15, 16, 17, 18] [] [0, 1, 2, 3, 4, 5, 6, 7, 8, 9, 10, 11, 12, 13, 14, 15, 16, 17, 18] rfl rfl (by decide) (by decide) rfl rfl 0 rfl rfl rfl (by decide) (by decide) (Nat.le_of_ble_eq_true rfl) dX5_countOf_1 rfl rfl (fun H locs hW => ?_)
  refine r_iconst (z := 0) C dX5_countOf_4 rfl ?_
  refine r_istore_n C [(2, .int (iI (0))), (0, .ref (o)), (1, .int (iI (w)))] dX5_countOf_5 hl (by decide) rfl (fun ls hl => ?_)
  refine r_iconst (z := 0) C dX5_countOf_6 rfl ?_
  refine r_istore_n C [(3, .int (iI (0))), (2, .int (iI (0))), (0, .ref (o)), (1, .int (iI (w)))] dX5_countOf_7 hl (by decide) rfl (fun ls hl => ?_)
  have hloop8 : ∀ (k8 : Nat) (k r : Int) (hkk : k + k8 = m_now K 1) (hk : 0 ≤ k) (hr9 : 0 ≤ r ∧ r ≤ k) (hq : mReached K = it (fun k r => r + bA (hHeld (m_place K) k) 1) k8 k r) (H : Heap) (locs : List Loc) (ls : Array Slot), HW g A zs.heap (mF g o ad (m_refused K) (m_now K) (m_kept K) (m_states K) (m_place K) (m_startFact K) (m_node K) (m_fact K) (m_ahead K) (m_inside K) (m_entries K) (m_caller K) (m_following K) (m_firstCaller K) (m_lastCaller K) (m_callers K) (m_known K) (m_loose K) (m_stack K) (m_high K) (m_pairs K) (m_told K) (m_text K) (m_typed K) (m_orders K) (m_written K) (m_look K)) H locs → lv_has ls 4 [(0, .ref (o)), (1, .int (iI (w))), (2, .int (iI (r))), (3, .int (iI (k)))] → W zp l ze (rmm 7 168) zs zm (List.toArray [.ref (o), .int (iI (w))]) zb zt zc H locs 0 0 (MQ zb (QW g (mF g o ad (m_refused M) (m_now M) (m_kept M) (m_states M) (m_place M) (m_startFact M) (m_node M) (m_fact M) (m_ahead M) (m_inside M) (m_entries M) (m_caller M) (m_following M) (m_firstCaller M) (m_lastCaller M) (m_callers M) (m_known M) (m_loose M) (m_stack M) (m_high M) (m_pairs M) (m_told M) (m_text M) (m_typed M) (m_orders M) (m_written M) (m_look M)) (mF g o ad (m_refused K) (m_now K) (m_kept K) (m_states K) (m_place K) (m_startFact K) (m_node K) (m_fact K) (m_ahead K) (m_inside K) (m_entries K) (m_caller K) (m_following K) (m_firstCaller K) (m_lastCaller K) (m_callers K) (m_known K) (m_loose K) (m_stack K) (m_high K) (m_pairs K) (m_told K) (m_text K) (m_typed K) (m_orders K) (m_written K) (m_look K)) zs.heap.size (some (.int (iI (mCountOf K w))))) (List.toArray [.ref (o), .int (iI (w))]) zs 0 0 A) (F0 zm 8 ls []) := by
    intro k8
    induction k8 with
    | zero =>
      intro k r hkk hk hr9 hq H locs ls hW hl
      refine r_iload_n C dX5_countOf_8 hl 3 rfl ?_
      refine r_aload_n C dX5_countOf_9 hl 0 rfl ?_
      refine r_get (v := .ref (ad 1)) C f_X5_13 hW.1 0 rfl rfl dX5_countOf_10 ?_
      refine r_iconst (z := 1) C dX5_countOf_13 rfl ?_
      refine r_iald (f := m_now K) C hW.1 2 rfl (Nat.le_of_ble_eq_true rfl) (by omega) dX5_countOf_14 ?_
      have hr1 := hKN.2.1
      refine r_icmp_ge C 34 dX5_countOf_15 (by decide) (by omega) (by omega) (fun hc2 => ?_) (fun hc2 => ?_)
      · skip
        refine r_iload_n C dX5_countOf_34 hl 1 rfl ?_
        refine r_iconst (z := 4) C dX5_countOf_35 rfl ?_
        refine r_icmp_ge C 48 dX5_countOf_36 (by decide) (by omega) (by omega) (fun hc3 => ?_) (fun hc3 => ?_)
        · skip
          refine r_iload_n C dX5_countOf_48 hl 1 rfl ?_
          refine r_iconst (z := 4) C dX5_countOf_49 rfl ?_
          refine r_icmp_ne C 60 dX5_countOf_50 (by decide) (by omega) (by omega) (fun hc4 => ?_) (fun hc4 => ?_)
          · skip
            refine r_iload_n C dX5_countOf_60 hl 2 rfl ?_
            exact MW_iret C hAe hrt hlk hW dX5_countOf_61 (iw (by unfold mCountOf; rw [if_neg (by omega), if_neg (by omega), hq]; rfl)) rfl
          · skip
            refine r_aload_n C dX5_countOf_53 hl 0 rfl ?_
            refine r_get (v := .int (iI (m_entries K))) C f_X5_155 hW.1 0 rfl rfl dX5_countOf_54 ?_
            refine r_goto C 61 dX5_countOf_57 (by decide) ?_
            exact MW_iret C hAe hrt hlk hW dX5_countOf_61 (iw (by unfold mCountOf; rw [if_neg (by omega), if_pos (by omega)])) rfl
        · skip
          refine r_aload_n C dX5_countOf_39 hl 0 rfl ?_
          refine r_get (v := .ref (ad 1)) C f_X5_13 hW.1 0 rfl rfl dX5_countOf_40 ?_
          refine r_iload_n C dX5_countOf_43 hl 1 rfl ?_
          refine r_iald (f := m_now K) C hW.1 2 rfl (Nat.le_of_ble_eq_true rfl) (by omega) dX5_countOf_44 ?_
          refine r_goto C 61 dX5_countOf_45 (by decide) ?_
          exact MW_iret C hAe hrt hlk hW dX5_countOf_61 (iw (by unfold mCountOf; rw [if_pos (by omega)])) rfl
      · exact absurd hc2 (by omega)
    | succ k8 ih8 =>
      intro k r hkk hk hr9 hq H locs ls hW hl
      refine r_iload_n C dX5_countOf_8 hl 3 rfl ?_
      refine r_aload_n C dX5_countOf_9 hl 0 rfl ?_
      refine r_get (v := .ref (ad 1)) C f_X5_13 hW.1 0 rfl rfl dX5_countOf_10 ?_
      refine r_iconst (z := 1) C dX5_countOf_13 rfl ?_
      refine r_iald (f := m_now K) C hW.1 2 rfl (Nat.le_of_ble_eq_true rfl) (by omega) dX5_countOf_14 ?_
      have hr5 := hKN.2.1
      refine r_icmp_ge C 34 dX5_countOf_15 (by decide) (by omega) (by omega) (fun hc6 => ?_) (fun hc6 => ?_)
      · exact absurd hc6 (by omega)
      · skip
        refine r_iload_n C dX5_countOf_18 hl 2 rfl ?_
        refine r_aload_n C dX5_countOf_19 hl 0 rfl ?_
        refine r_iload_n C dX5_countOf_20 hl 3 rfl ?_
        refine r_callR (rest := [.int (iI (r))]) (r := .int (iI (hHeld ((m_place K)) k))) C hl.1 (c_X5_held l g o ad (m_refused K) (m_now K) (m_kept K) (m_states K) (m_place K) (m_startFact K) (m_node K) (m_fact K) (m_ahead K) (m_inside K) (m_entries K) (m_caller K) (m_following K) (m_firstCaller K) (m_lastCaller K) (m_callers K) (m_known K) (m_loose K) (m_stack K) (m_high K) (m_pairs K) (m_told K) (m_text K) (m_typed K) (m_orders K) (m_written K) (m_look K) k (by assumption) (show 0 ≤ k ∧ k < 24 by omega)) v_X5_191 rfl hW.1 0 rfl rfl rfl (by decide) (by decide) (Nat.le_of_ble_eq_true rfl) dX5_countOf_21 rfl ?_
        have hh9 := hHeld_q (m_place K) k
        refine r_iconst (z := 1) C dX5_countOf_24 rfl ?_
        refine r_iand C (by omega) (by omega) dX5_countOf_25 ?_
        have hb7 := bA_0 (hHeld ((m_place K)) k) 1
        have hb9 := Nat.and_le_right (n := (hHeld ((m_place K)) k).toNat) (m := (1 : Int).toNat); have hb8 : bA (hHeld ((m_place K)) k) 1 ≤ 1 := by unfold bA; omega
        refine r_iadd C dX5_countOf_26 ?_
        refine r_istore_n C [(2, .int (iI (r + (bA (hHeld ((m_place K)) k) 1)))), (0, .ref (o)), (1, .int (iI (w))), (3, .int (iI (k)))] dX5_countOf_27 hl (by decide) rfl (fun ls hl => ?_)
        refine r_iinc (v := k + 1) C [(3, .int (iI (k + 1))), (2, .int (iI (r + (bA (hHeld ((m_place K)) k) 1)))), (0, .ref (o)), (1, .int (iI (w)))] dX5_countOf_28 hl 3 rfl (by decide) (by omega) rfl (fun ls hl => ?_)
        refine r_goto C 8 dX5_countOf_31 (by decide) ?_
        exact ih8 (k + 1) _ (by omega) (by omega) (by omega) (by rw [hq, it_s]) _ _ ls hW (lv_sub hl [2, 3, 1, 0] rfl)
  exact hloop8 (m_now K 1).toNat 0 0 (by omega) (by omega) (by omega) rfl _ _ ls hW (lv_sub hl [2, 3, 1, 0] rfl)
set_option maxHeartbeats 4000000 in
set_option maxRecDepth 100000 in
theorem c_X5_count (l : Launch) (g : GG) (o : Nat) (ad : Nat → Nat) (M : Md) (w : Int) (hM : mOk M) (hN : nOk (m_now M)) (hWf : nWf (m_now M)) (h_w : rg w) : MW l g yX5_count cX5_count 2 (some .int) 8 191 [.ref (o), .int (iI (w))] (mF g o ad (m_refused M) (m_now M) (m_kept M) (m_states M) (m_place M) (m_startFact M) (m_node M) (m_fact M) (m_ahead M) (m_inside M) (m_entries M) (m_caller M) (m_following M) (m_firstCaller M) (m_lastCaller M) (m_callers M) (m_known M) (m_loose M) (m_stack M) (m_high M) (m_pairs M) (m_told M) (m_text M) (m_typed M) (m_orders M) (m_written M) (m_look M)) (mF g o ad (m_refused ((mCount w M).2)) (m_now ((mCount w M).2)) (m_kept ((mCount w M).2)) (m_states ((mCount w M).2)) (m_place ((mCount w M).2)) (m_startFact ((mCount w M).2)) (m_node ((mCount w M).2)) (m_fact ((mCount w M).2)) (m_ahead ((mCount w M).2)) (m_inside ((mCount w M).2)) (m_entries ((mCount w M).2)) (m_caller ((mCount w M).2)) (m_following ((mCount w M).2)) (m_firstCaller ((mCount w M).2)) (m_lastCaller ((mCount w M).2)) (m_callers ((mCount w M).2)) (m_known ((mCount w M).2)) (m_loose ((mCount w M).2)) (m_stack ((mCount w M).2)) (m_high ((mCount w M).2)) (m_pairs ((mCount w M).2)) (m_told ((mCount w M).2)) (m_text ((mCount w M).2)) (m_typed ((mCount w M).2)) (m_orders ((mCount w M).2)) (m_written ((mCount w M).2)) (m_look ((mCount w M).2))) (some (.int (iI ((mCount w M).1)))) := by
  refine MW_start (by decide) (Nat.le_of_ble_eq_true rfl) ?_
  intro zp ze zs zm zb zt zc A hAe C hrt hlk hW ls hl
  have hA : ∀ q, zs.heap.size ≤ q → A q := fun q h => by rw [hAe]; exact Or.inr h
  have hl : lv_has ls 2 [(0, .ref (o)), (1, .int (iI (w)))] := hl
  have hM_refused : ∀ j : Int, 0 ≤ j → j < 3 → 0 ≤ m_refused M j ∧ m_refused M j ≤ 1000000 := hM.1
  have hM_states : 0 ≤ m_states M ∧ m_states M ≤ 5 := hM.2.1
  have hM_place : ∀ j : Int, 0 ≤ j → j < 1536 → 0 ≤ m_place M j ∧ m_place M j ≤ 1536 := hM.2.2.1
  have hM_startFact : ∀ j : Int, 0 ≤ j → j < 1536 → 0 ≤ m_startFact M j ∧ m_startFact M j ≤ 7 := hM.2.2.2.1
  have hM_node : ∀ j : Int, 0 ≤ j → j < 1536 → 0 ≤ m_node M j ∧ m_node M j ≤ 23 := hM.2.2.2.2.1
  have hM_fact : ∀ j : Int, 0 ≤ j → j < 1536 → 0 ≤ m_fact M j ∧ m_fact M j ≤ 7 := hM.2.2.2.2.2.1
  have hM_ahead : ∀ j : Int, 0 ≤ j → j < 1536 → -1 ≤ m_ahead M j ∧ m_ahead M j ≤ 1535 := hM.2.2.2.2.2.2.1
  have hM_inside : ∀ j : Int, 0 ≤ j → j < 1536 → -1 ≤ m_inside M j ∧ m_inside M j ≤ 1535 := hM.2.2.2.2.2.2.2.1
  have hM_entries : 0 ≤ m_entries M ∧ m_entries M ≤ 1536 := hM.2.2.2.2.2.2.2.2.1
  have hM_caller : ∀ j : Int, 0 ≤ j → j < 16384 → 0 ≤ m_caller M j ∧ m_caller M j ≤ 49151 := hM.2.2.2.2.2.2.2.2.2.1
  have hM_following : ∀ j : Int, 0 ≤ j → j < 16384 → -1 ≤ m_following M j ∧ m_following M j ≤ 16383 := hM.2.2.2.2.2.2.2.2.2.2.1
  have hM_firstCaller : ∀ j : Int, 0 ≤ j → j < 40 → -1 ≤ m_firstCaller M j ∧ m_firstCaller M j ≤ 16383 := hM.2.2.2.2.2.2.2.2.2.2.2.1
  have hM_lastCaller : ∀ j : Int, 0 ≤ j → j < 40 → -1 ≤ m_lastCaller M j ∧ m_lastCaller M j ≤ 16383 := hM.2.2.2.2.2.2.2.2.2.2.2.2.1
  have hM_callers : 0 ≤ m_callers M ∧ m_callers M ≤ 16384 := hM.2.2.2.2.2.2.2.2.2.2.2.2.2.1
  have hM_known : 0 ≤ m_known M ∧ m_known M ≤ 1 := hM.2.2.2.2.2.2.2.2.2.2.2.2.2.2.1
  have hM_loose : ∀ j : Int, 0 ≤ j → j < 24 → 0 ≤ m_loose M j ∧ m_loose M j ≤ 255 := hM.2.2.2.2.2.2.2.2.2.2.2.2.2.2.2.1
  have hM_stack : ∀ j : Int, 0 ≤ j → j < 8000 → 0 ≤ m_stack M j ∧ m_stack M j ≤ 6143 := hM.2.2.2.2.2.2.2.2.2.2.2.2.2.2.2.2.1
  have hM_high : 0 ≤ m_high M ∧ m_high M ≤ 8000 := hM.2.2.2.2.2.2.2.2.2.2.2.2.2.2.2.2.2.1
  have hM_pairs : ∀ j : Int, 0 ≤ j → j < 1000 → 0 ≤ m_pairs M j ∧ m_pairs M j ≤ 239 := hM.2.2.2.2.2.2.2.2.2.2.2.2.2.2.2.2.2.2.1
  have hM_told : 0 ≤ m_told M ∧ m_told M ≤ 1000 := hM.2.2.2.2.2.2.2.2.2.2.2.2.2.2.2.2.2.2.2.1
  have hM_text : ∀ j : Int, 0 ≤ j → j < 120 → 0 ≤ m_text M j ∧ m_text M j ≤ 127 := hM.2.2.2.2.2.2.2.2.2.2.2.2.2.2.2.2.2.2.2.2.1
  have hM_typed : 0 ≤ m_typed M ∧ m_typed M ≤ 120 := hM.2.2.2.2.2.2.2.2.2.2.2.2.2.2.2.2.2.2.2.2.2.1
  have hM_orders : ∀ j : Int, 0 ≤ j → j < 300 → 0 ≤ m_orders M j ∧ m_orders M j ≤ 999 := hM.2.2.2.2.2.2.2.2.2.2.2.2.2.2.2.2.2.2.2.2.2.2.1
  have hM_written : 0 ≤ m_written M ∧ m_written M ≤ 60 := hM.2.2.2.2.2.2.2.2.2.2.2.2.2.2.2.2.2.2.2.2.2.2.2.1
  have hM_look : 0 ≤ m_look M ∧ m_look M ≤ 120 := hM.2.2.2.2.2.2.2.2.2.2.2.2.2.2.2.2.2.2.2.2.2.2.2.2
  have hN_0 := hN.1
  have hN_1 := hN.2.1
  have hN_2 := hN.2.2.1
  have hN_3 := hN.2.2.2.1
  refine r_iload_n C dX5_count_0 hl 1 rfl ?_
  refine r_iconst (z := 0) C dX5_count_1 rfl ?_
  refine r_iconst (z := 5) C dX5_count_2 rfl ?_
  refine r_callRS (rest := []) (r := .int (iI (bI (0 ≤ w ∧ w ≤ 5)))) C hl.1 (c_X5_in l g  w 0 5 (show rg w by omega) (show rg 0 by omega) (show rg 5 by omega)) v_X5_89 rfl (fun k q h => by simp at h) (by decide) (by decide) (Nat.le_of_ble_eq_true rfl) dX5_count_3 rfl ?_
  refine r_ifb_eq C 17 dX5_count_6 (by decide) (fun hc1 => ?_) (fun hc1 => ?_)
  · skip
    refine r_aload_n C dX5_count_17 hl 0 rfl ?_
    refine r_callW (rest := []) (r := some (.int (iI (-2)))) (wr := []) (ws2 := mF g o ad (up ((m_refused M)) 0 ((m_refused M) 0 + 1)) (m_now M) (m_kept M) (m_states M) (m_place M) (m_startFact M) (m_node M) (m_fact M) (m_ahead M) (m_inside M) (m_entries M) (m_caller M) (m_following M) (m_firstCaller M) (m_lastCaller M) (m_callers M) (m_known M) (m_loose M) (m_stack M) (m_high M) (m_pairs M) (m_told M) (m_text M) (m_typed M) (m_orders M) (m_written M) (m_look M)) (st1 := [.int (iI (-2))]) C hl.1 hW hA (c_X5_bad l g o ad (m_refused M) (m_now M) (m_kept M) (m_states M) (m_place M) (m_startFact M) (m_node M) (m_fact M) (m_ahead M) (m_inside M) (m_entries M) (m_caller M) (m_following M) (m_firstCaller M) (m_lastCaller M) (m_callers M) (m_known M) (m_loose M) (m_stack M) (m_high M) (m_pairs M) (m_told M) (m_text M) (m_typed M) (m_orders M) (m_written M) (m_look M)) v_X5_68 rfl [0, 1, 2, 3, 4, 5, 6, 7, 8, 9, 10, 11, 12, 13, 14, 15, 16, 17, 18] [] [0, 1, 2, 3, 4, 5, 6, 7, 8, 9, 10, 11, 12, 13, 14, 15, 16, 17, 18] rfl rfl (by decide) (by decide) rfl rfl 0 rfl rfl rfl (by decide) (by decide) (Nat.le_of_ble_eq_true rfl) dX5_count_18 rfl rfl (fun H locs hW => ?_)
    have hE : mCount w M = (-2, (up ((m_refused M)) 0 ((m_refused M) 0 + 1), m_now M, m_kept M, m_states M, m_place M, m_startFact M, m_node M, m_fact M, m_ahead M, m_inside M, m_entries M, m_caller M, m_following M, m_firstCaller M, m_lastCaller M, m_callers M, m_known M, m_loose M, m_stack M, m_high M, m_pairs M, m_told M, m_text M, m_typed M, m_orders M, m_written M, m_look M)) := if_neg (by assumption)
    exact MW_iret C hAe hrt hlk hW dX5_count_21 (iw (by rw [hE])) (by rw [hE])
  · skip
    refine r_aload_n C dX5_count_9 hl 0 rfl ?_
    refine r_iload_n C dX5_count_10 hl 1 rfl ?_
    refine r_callW (rest := []) (r := some (.int (iI (mCountOf (mKn M) w)))) (wr := []) (ws2 := mF g o ad (m_refused (mKn M)) (m_now (mKn M)) (m_kept (mKn M)) (m_states (mKn M)) (m_place (mKn M)) (m_startFact (mKn M)) (m_node (mKn M)) (m_fact (mKn M)) (m_ahead (mKn M)) (m_inside (mKn M)) (m_entries (mKn M)) (m_caller (mKn M)) (m_following (mKn M)) (m_firstCaller (mKn M)) (m_lastCaller (mKn M)) (m_callers (mKn M)) (m_known (mKn M)) (m_loose (mKn M)) (m_stack (mKn M)) (m_high (mKn M)) (m_pairs (mKn M)) (m_told (mKn M)) (m_text (mKn M)) (m_typed (mKn M)) (m_orders (mKn M)) (m_written (mKn M)) (m_look (mKn M))) (st1 := [.int (iI (mCountOf (mKn M) w))]) C hl.1 hW hA (c_X5_countOf l g o ad M w (mKn M) (by assumption) (by assumption) (by assumption) (show 0 ≤ w ∧ w ≤ 5 by omega) rfl) v_X5_194 rfl [0, 1, 2, 3, 4, 5, 6, 7, 8, 9, 10, 11, 12, 13, 14, 15, 16, 17, 18] [] [0, 1, 2, 3, 4, 5, 6, 7, 8, 9, 10, 11, 12, 13, 14, 15, 16, 17, 18] rfl rfl (by decide) (by decide) rfl rfl 0 rfl rfl rfl (by decide) (by decide) (Nat.le_of_ble_eq_true rfl) dX5_count_11 rfl rfl (fun H locs hW => ?_)
    refine r_goto C 21 dX5_count_14 (by decide) ?_
    have hE : mCount w M = (mCountOf (mKn M) w, (mKn M)) := if_pos (by assumption)
    exact MW_iret C hAe hrt hlk hW dX5_count_21 (iw (by rw [hE])) (by rw [hE])
set_option maxHeartbeats 4000000 in
set_option maxRecDepth 100000 in
theorem c_X5_holdsAt (l : Launch) (g : GG) (o : Nat) (ad : Nat → Nat) (M : Md) (n : Int) (K : Md) (hM : mOk M) (hN : nOk (m_now M)) (hWf : nWf (m_now M)) (hn : 0 ≤ n ∧ n < 24) (hK : mKn M = K) : MW l g yX5_holdsAt cX5_holdsAt 2 (some .int) 7 168 [.ref (o), .int (iI (n))] (mF g o ad (m_refused M) (m_now M) (m_kept M) (m_states M) (m_place M) (m_startFact M) (m_node M) (m_fact M) (m_ahead M) (m_inside M) (m_entries M) (m_caller M) (m_following M) (m_firstCaller M) (m_lastCaller M) (m_callers M) (m_known M) (m_loose M) (m_stack M) (m_high M) (m_pairs M) (m_told M) (m_text M) (m_typed M) (m_orders M) (m_written M) (m_look M)) (mF g o ad (m_refused K) (m_now K) (m_kept K) (m_states K) (m_place K) (m_startFact K) (m_node K) (m_fact K) (m_ahead K) (m_inside K) (m_entries K) (m_caller K) (m_following K) (m_firstCaller K) (m_lastCaller K) (m_callers K) (m_known K) (m_loose K) (m_stack K) (m_high K) (m_pairs K) (m_told K) (m_text K) (m_typed K) (m_orders K) (m_written K) (m_look K)) (some (.int (iI (hHeld (m_place K) n)))) := by
  refine MW_start (by decide) (Nat.le_of_ble_eq_true rfl) ?_
  intro zp ze zs zm zb zt zc A hAe C hrt hlk hW ls hl
  have hA : ∀ q, zs.heap.size ≤ q → A q := fun q h => by rw [hAe]; exact Or.inr h
  have hl : lv_has ls 2 [(0, .ref (o)), (1, .int (iI (n)))] := hl
  have hM_refused : ∀ j : Int, 0 ≤ j → j < 3 → 0 ≤ m_refused M j ∧ m_refused M j ≤ 1000000 := hM.1
  have hM_states : 0 ≤ m_states M ∧ m_states M ≤ 5 := hM.2.1
  have hM_place : ∀ j : Int, 0 ≤ j → j < 1536 → 0 ≤ m_place M j ∧ m_place M j ≤ 1536 := hM.2.2.1
  have hM_startFact : ∀ j : Int, 0 ≤ j → j < 1536 → 0 ≤ m_startFact M j ∧ m_startFact M j ≤ 7 := hM.2.2.2.1
  have hM_node : ∀ j : Int, 0 ≤ j → j < 1536 → 0 ≤ m_node M j ∧ m_node M j ≤ 23 := hM.2.2.2.2.1
  have hM_fact : ∀ j : Int, 0 ≤ j → j < 1536 → 0 ≤ m_fact M j ∧ m_fact M j ≤ 7 := hM.2.2.2.2.2.1
  have hM_ahead : ∀ j : Int, 0 ≤ j → j < 1536 → -1 ≤ m_ahead M j ∧ m_ahead M j ≤ 1535 := hM.2.2.2.2.2.2.1
  have hM_inside : ∀ j : Int, 0 ≤ j → j < 1536 → -1 ≤ m_inside M j ∧ m_inside M j ≤ 1535 := hM.2.2.2.2.2.2.2.1
  have hM_entries : 0 ≤ m_entries M ∧ m_entries M ≤ 1536 := hM.2.2.2.2.2.2.2.2.1
  have hM_caller : ∀ j : Int, 0 ≤ j → j < 16384 → 0 ≤ m_caller M j ∧ m_caller M j ≤ 49151 := hM.2.2.2.2.2.2.2.2.2.1
  have hM_following : ∀ j : Int, 0 ≤ j → j < 16384 → -1 ≤ m_following M j ∧ m_following M j ≤ 16383 := hM.2.2.2.2.2.2.2.2.2.2.1
  have hM_firstCaller : ∀ j : Int, 0 ≤ j → j < 40 → -1 ≤ m_firstCaller M j ∧ m_firstCaller M j ≤ 16383 := hM.2.2.2.2.2.2.2.2.2.2.2.1
  have hM_lastCaller : ∀ j : Int, 0 ≤ j → j < 40 → -1 ≤ m_lastCaller M j ∧ m_lastCaller M j ≤ 16383 := hM.2.2.2.2.2.2.2.2.2.2.2.2.1
  have hM_callers : 0 ≤ m_callers M ∧ m_callers M ≤ 16384 := hM.2.2.2.2.2.2.2.2.2.2.2.2.2.1
  have hM_known : 0 ≤ m_known M ∧ m_known M ≤ 1 := hM.2.2.2.2.2.2.2.2.2.2.2.2.2.2.1
  have hM_loose : ∀ j : Int, 0 ≤ j → j < 24 → 0 ≤ m_loose M j ∧ m_loose M j ≤ 255 := hM.2.2.2.2.2.2.2.2.2.2.2.2.2.2.2.1
  have hM_stack : ∀ j : Int, 0 ≤ j → j < 8000 → 0 ≤ m_stack M j ∧ m_stack M j ≤ 6143 := hM.2.2.2.2.2.2.2.2.2.2.2.2.2.2.2.2.1
  have hM_high : 0 ≤ m_high M ∧ m_high M ≤ 8000 := hM.2.2.2.2.2.2.2.2.2.2.2.2.2.2.2.2.2.1
  have hM_pairs : ∀ j : Int, 0 ≤ j → j < 1000 → 0 ≤ m_pairs M j ∧ m_pairs M j ≤ 239 := hM.2.2.2.2.2.2.2.2.2.2.2.2.2.2.2.2.2.2.1
  have hM_told : 0 ≤ m_told M ∧ m_told M ≤ 1000 := hM.2.2.2.2.2.2.2.2.2.2.2.2.2.2.2.2.2.2.2.1
  have hM_text : ∀ j : Int, 0 ≤ j → j < 120 → 0 ≤ m_text M j ∧ m_text M j ≤ 127 := hM.2.2.2.2.2.2.2.2.2.2.2.2.2.2.2.2.2.2.2.2.1
  have hM_typed : 0 ≤ m_typed M ∧ m_typed M ≤ 120 := hM.2.2.2.2.2.2.2.2.2.2.2.2.2.2.2.2.2.2.2.2.2.1
  have hM_orders : ∀ j : Int, 0 ≤ j → j < 300 → 0 ≤ m_orders M j ∧ m_orders M j ≤ 999 := hM.2.2.2.2.2.2.2.2.2.2.2.2.2.2.2.2.2.2.2.2.2.2.1
  have hM_written : 0 ≤ m_written M ∧ m_written M ≤ 60 := hM.2.2.2.2.2.2.2.2.2.2.2.2.2.2.2.2.2.2.2.2.2.2.2.1
  have hM_look : 0 ≤ m_look M ∧ m_look M ≤ 120 := hM.2.2.2.2.2.2.2.2.2.2.2.2.2.2.2.2.2.2.2.2.2.2.2.2
  have hN_0 := hN.1
  have hN_1 := hN.2.1
  have hN_2 := hN.2.2.1
  have hN_3 := hN.2.2.2.1
  have hKk := mKn_ok hM hN hWf
  rw [hK] at hKk
  have hKo : mOk K := hKk.1
  have hKn : m_now K = m_now M := hKk.2
  have hKN : nOk (m_now K) := by rw [hKn]; exact hN
  have hKN_0 := hKN.1
  have hKN_1 := hKN.2.1
  have hKN_2 := hKN.2.2.1
  have hKN_3 := hKN.2.2.2.1
  have hKo_refused : ∀ j : Int, 0 ≤ j → j < 3 → 0 ≤ m_refused K j ∧ m_refused K j ≤ 1000000 := hKo.1
  have hKo_states : 0 ≤ m_states K ∧ m_states K ≤ 5 := hKo.2.1
  have hKo_place : ∀ j : Int, 0 ≤ j → j < 1536 → 0 ≤ m_place K j ∧ m_place K j ≤ 1536 := hKo.2.2.1
  have hKo_startFact : ∀ j : Int, 0 ≤ j → j < 1536 → 0 ≤ m_startFact K j ∧ m_startFact K j ≤ 7 := hKo.2.2.2.1
  have hKo_node : ∀ j : Int, 0 ≤ j → j < 1536 → 0 ≤ m_node K j ∧ m_node K j ≤ 23 := hKo.2.2.2.2.1
  have hKo_fact : ∀ j : Int, 0 ≤ j → j < 1536 → 0 ≤ m_fact K j ∧ m_fact K j ≤ 7 := hKo.2.2.2.2.2.1
  have hKo_ahead : ∀ j : Int, 0 ≤ j → j < 1536 → -1 ≤ m_ahead K j ∧ m_ahead K j ≤ 1535 := hKo.2.2.2.2.2.2.1
  have hKo_inside : ∀ j : Int, 0 ≤ j → j < 1536 → -1 ≤ m_inside K j ∧ m_inside K j ≤ 1535 := hKo.2.2.2.2.2.2.2.1
  have hKo_entries : 0 ≤ m_entries K ∧ m_entries K ≤ 1536 := hKo.2.2.2.2.2.2.2.2.1
  have hKo_caller : ∀ j : Int, 0 ≤ j → j < 16384 → 0 ≤ m_caller K j ∧ m_caller K j ≤ 49151 := hKo.2.2.2.2.2.2.2.2.2.1
  have hKo_following : ∀ j : Int, 0 ≤ j → j < 16384 → -1 ≤ m_following K j ∧ m_following K j ≤ 16383 := hKo.2.2.2.2.2.2.2.2.2.2.1
  have hKo_firstCaller : ∀ j : Int, 0 ≤ j → j < 40 → -1 ≤ m_firstCaller K j ∧ m_firstCaller K j ≤ 16383 := hKo.2.2.2.2.2.2.2.2.2.2.2.1
  have hKo_lastCaller : ∀ j : Int, 0 ≤ j → j < 40 → -1 ≤ m_lastCaller K j ∧ m_lastCaller K j ≤ 16383 := hKo.2.2.2.2.2.2.2.2.2.2.2.2.1
  have hKo_callers : 0 ≤ m_callers K ∧ m_callers K ≤ 16384 := hKo.2.2.2.2.2.2.2.2.2.2.2.2.2.1
  have hKo_known : 0 ≤ m_known K ∧ m_known K ≤ 1 := hKo.2.2.2.2.2.2.2.2.2.2.2.2.2.2.1
  have hKo_loose : ∀ j : Int, 0 ≤ j → j < 24 → 0 ≤ m_loose K j ∧ m_loose K j ≤ 255 := hKo.2.2.2.2.2.2.2.2.2.2.2.2.2.2.2.1
  have hKo_stack : ∀ j : Int, 0 ≤ j → j < 8000 → 0 ≤ m_stack K j ∧ m_stack K j ≤ 6143 := hKo.2.2.2.2.2.2.2.2.2.2.2.2.2.2.2.2.1
  have hKo_high : 0 ≤ m_high K ∧ m_high K ≤ 8000 := hKo.2.2.2.2.2.2.2.2.2.2.2.2.2.2.2.2.2.1
  have hKo_pairs : ∀ j : Int, 0 ≤ j → j < 1000 → 0 ≤ m_pairs K j ∧ m_pairs K j ≤ 239 := hKo.2.2.2.2.2.2.2.2.2.2.2.2.2.2.2.2.2.2.1
  have hKo_told : 0 ≤ m_told K ∧ m_told K ≤ 1000 := hKo.2.2.2.2.2.2.2.2.2.2.2.2.2.2.2.2.2.2.2.1
  have hKo_text : ∀ j : Int, 0 ≤ j → j < 120 → 0 ≤ m_text K j ∧ m_text K j ≤ 127 := hKo.2.2.2.2.2.2.2.2.2.2.2.2.2.2.2.2.2.2.2.2.1
  have hKo_typed : 0 ≤ m_typed K ∧ m_typed K ≤ 120 := hKo.2.2.2.2.2.2.2.2.2.2.2.2.2.2.2.2.2.2.2.2.2.1
  have hKo_orders : ∀ j : Int, 0 ≤ j → j < 300 → 0 ≤ m_orders K j ∧ m_orders K j ≤ 999 := hKo.2.2.2.2.2.2.2.2.2.2.2.2.2.2.2.2.2.2.2.2.2.2.1
  have hKo_written : 0 ≤ m_written K ∧ m_written K ≤ 60 := hKo.2.2.2.2.2.2.2.2.2.2.2.2.2.2.2.2.2.2.2.2.2.2.2.1
  have hKo_look : 0 ≤ m_look K ∧ m_look K ≤ 120 := hKo.2.2.2.2.2.2.2.2.2.2.2.2.2.2.2.2.2.2.2.2.2.2.2.2
  refine r_aload_n C dX5_holdsAt_0 hl 0 rfl ?_
  refine r_callW (rest := []) (r := none) (wr := []) (ws2 := mF g o ad (m_refused K) (m_now K) (m_kept K) (m_states K) (m_place K) (m_startFact K) (m_node K) (m_fact K) (m_ahead K) (m_inside K) (m_entries K) (m_caller K) (m_following K) (m_firstCaller K) (m_lastCaller K) (m_callers K) (m_known K) (m_loose K) (m_stack K) (m_high K) (m_pairs K) (m_told K) (m_text K) (m_typed K) (m_orders K) (m_written K) (m_look K)) (st1 := []) C hl.1 hW hA (c_X5_knows l g o ad M K (by assumption) (by assumption) (by assumption) (by assumption)) v_X5_188 rfl [0, 1, 2, 3, 4, 5, 6, 7, 8, 9, 10, 11, 12, 13, 14, 15, 16, 17, 18] [] [0, 1, 2, 3, 4, 5, 6, 7, 8, 9, 10, 11, 12, 13, 14, 15, 16, 17, 18] rfl rfl (by decide) (by decide) rfl rfl 0 rfl rfl rfl (by decide) (by decide) (Nat.le_of_ble_eq_true rfl) dX5_holdsAt_1 rfl rfl (fun H locs hW => ?_)
  refine r_aload_n C dX5_holdsAt_4 hl 0 rfl ?_
  refine r_iload_n C dX5_holdsAt_5 hl 1 rfl ?_
  refine r_callR (rest := []) (r := .int (iI (hHeld ((m_place K)) n))) C hl.1 (c_X5_held l g o ad (m_refused K) (m_now K) (m_kept K) (m_states K) (m_place K) (m_startFact K) (m_node K) (m_fact K) (m_ahead K) (m_inside K) (m_entries K) (m_caller K) (m_following K) (m_firstCaller K) (m_lastCaller K) (m_callers K) (m_known K) (m_loose K) (m_stack K) (m_high K) (m_pairs K) (m_told K) (m_text K) (m_typed K) (m_orders K) (m_written K) (m_look K) n (by assumption) (show 0 ≤ n ∧ n < 24 by omega)) v_X5_191 rfl hW.1 0 rfl rfl rfl (by decide) (by decide) (Nat.le_of_ble_eq_true rfl) dX5_holdsAt_6 rfl ?_
  exact MW_iret C hAe hrt hlk hW dX5_holdsAt_9 (iw rfl) rfl
set_option maxHeartbeats 4000000 in
set_option maxRecDepth 100000 in
theorem c_X5_holds (l : Launch) (g : GG) (o : Nat) (ad : Nat → Nat) (M : Md) (n : Int) (hM : mOk M) (hN : nOk (m_now M)) (hWf : nWf (m_now M)) (h_n : rg n) : MW l g yX5_holds cX5_holds 2 (some .int) 8 189 [.ref (o), .int (iI (n))] (mF g o ad (m_refused M) (m_now M) (m_kept M) (m_states M) (m_place M) (m_startFact M) (m_node M) (m_fact M) (m_ahead M) (m_inside M) (m_entries M) (m_caller M) (m_following M) (m_firstCaller M) (m_lastCaller M) (m_callers M) (m_known M) (m_loose M) (m_stack M) (m_high M) (m_pairs M) (m_told M) (m_text M) (m_typed M) (m_orders M) (m_written M) (m_look M)) (mF g o ad (m_refused ((mHolds n M).2)) (m_now ((mHolds n M).2)) (m_kept ((mHolds n M).2)) (m_states ((mHolds n M).2)) (m_place ((mHolds n M).2)) (m_startFact ((mHolds n M).2)) (m_node ((mHolds n M).2)) (m_fact ((mHolds n M).2)) (m_ahead ((mHolds n M).2)) (m_inside ((mHolds n M).2)) (m_entries ((mHolds n M).2)) (m_caller ((mHolds n M).2)) (m_following ((mHolds n M).2)) (m_firstCaller ((mHolds n M).2)) (m_lastCaller ((mHolds n M).2)) (m_callers ((mHolds n M).2)) (m_known ((mHolds n M).2)) (m_loose ((mHolds n M).2)) (m_stack ((mHolds n M).2)) (m_high ((mHolds n M).2)) (m_pairs ((mHolds n M).2)) (m_told ((mHolds n M).2)) (m_text ((mHolds n M).2)) (m_typed ((mHolds n M).2)) (m_orders ((mHolds n M).2)) (m_written ((mHolds n M).2)) (m_look ((mHolds n M).2))) (some (.int (iI ((mHolds n M).1)))) := by
  refine MW_start (by decide) (Nat.le_of_ble_eq_true rfl) ?_
  intro zp ze zs zm zb zt zc A hAe C hrt hlk hW ls hl
  have hA : ∀ q, zs.heap.size ≤ q → A q := fun q h => by rw [hAe]; exact Or.inr h
  have hl : lv_has ls 2 [(0, .ref (o)), (1, .int (iI (n)))] := hl
  have hM_refused : ∀ j : Int, 0 ≤ j → j < 3 → 0 ≤ m_refused M j ∧ m_refused M j ≤ 1000000 := hM.1
  have hM_states : 0 ≤ m_states M ∧ m_states M ≤ 5 := hM.2.1
  have hM_place : ∀ j : Int, 0 ≤ j → j < 1536 → 0 ≤ m_place M j ∧ m_place M j ≤ 1536 := hM.2.2.1
  have hM_startFact : ∀ j : Int, 0 ≤ j → j < 1536 → 0 ≤ m_startFact M j ∧ m_startFact M j ≤ 7 := hM.2.2.2.1
  have hM_node : ∀ j : Int, 0 ≤ j → j < 1536 → 0 ≤ m_node M j ∧ m_node M j ≤ 23 := hM.2.2.2.2.1
  have hM_fact : ∀ j : Int, 0 ≤ j → j < 1536 → 0 ≤ m_fact M j ∧ m_fact M j ≤ 7 := hM.2.2.2.2.2.1
  have hM_ahead : ∀ j : Int, 0 ≤ j → j < 1536 → -1 ≤ m_ahead M j ∧ m_ahead M j ≤ 1535 := hM.2.2.2.2.2.2.1
  have hM_inside : ∀ j : Int, 0 ≤ j → j < 1536 → -1 ≤ m_inside M j ∧ m_inside M j ≤ 1535 := hM.2.2.2.2.2.2.2.1
  have hM_entries : 0 ≤ m_entries M ∧ m_entries M ≤ 1536 := hM.2.2.2.2.2.2.2.2.1
  have hM_caller : ∀ j : Int, 0 ≤ j → j < 16384 → 0 ≤ m_caller M j ∧ m_caller M j ≤ 49151 := hM.2.2.2.2.2.2.2.2.2.1
  have hM_following : ∀ j : Int, 0 ≤ j → j < 16384 → -1 ≤ m_following M j ∧ m_following M j ≤ 16383 := hM.2.2.2.2.2.2.2.2.2.2.1
  have hM_firstCaller : ∀ j : Int, 0 ≤ j → j < 40 → -1 ≤ m_firstCaller M j ∧ m_firstCaller M j ≤ 16383 := hM.2.2.2.2.2.2.2.2.2.2.2.1
  have hM_lastCaller : ∀ j : Int, 0 ≤ j → j < 40 → -1 ≤ m_lastCaller M j ∧ m_lastCaller M j ≤ 16383 := hM.2.2.2.2.2.2.2.2.2.2.2.2.1
  have hM_callers : 0 ≤ m_callers M ∧ m_callers M ≤ 16384 := hM.2.2.2.2.2.2.2.2.2.2.2.2.2.1
  have hM_known : 0 ≤ m_known M ∧ m_known M ≤ 1 := hM.2.2.2.2.2.2.2.2.2.2.2.2.2.2.1
  have hM_loose : ∀ j : Int, 0 ≤ j → j < 24 → 0 ≤ m_loose M j ∧ m_loose M j ≤ 255 := hM.2.2.2.2.2.2.2.2.2.2.2.2.2.2.2.1
  have hM_stack : ∀ j : Int, 0 ≤ j → j < 8000 → 0 ≤ m_stack M j ∧ m_stack M j ≤ 6143 := hM.2.2.2.2.2.2.2.2.2.2.2.2.2.2.2.2.1
  have hM_high : 0 ≤ m_high M ∧ m_high M ≤ 8000 := hM.2.2.2.2.2.2.2.2.2.2.2.2.2.2.2.2.2.1
  have hM_pairs : ∀ j : Int, 0 ≤ j → j < 1000 → 0 ≤ m_pairs M j ∧ m_pairs M j ≤ 239 := hM.2.2.2.2.2.2.2.2.2.2.2.2.2.2.2.2.2.2.1
  have hM_told : 0 ≤ m_told M ∧ m_told M ≤ 1000 := hM.2.2.2.2.2.2.2.2.2.2.2.2.2.2.2.2.2.2.2.1
  have hM_text : ∀ j : Int, 0 ≤ j → j < 120 → 0 ≤ m_text M j ∧ m_text M j ≤ 127 := hM.2.2.2.2.2.2.2.2.2.2.2.2.2.2.2.2.2.2.2.2.1
  have hM_typed : 0 ≤ m_typed M ∧ m_typed M ≤ 120 := hM.2.2.2.2.2.2.2.2.2.2.2.2.2.2.2.2.2.2.2.2.2.1
  have hM_orders : ∀ j : Int, 0 ≤ j → j < 300 → 0 ≤ m_orders M j ∧ m_orders M j ≤ 999 := hM.2.2.2.2.2.2.2.2.2.2.2.2.2.2.2.2.2.2.2.2.2.2.1
  have hM_written : 0 ≤ m_written M ∧ m_written M ≤ 60 := hM.2.2.2.2.2.2.2.2.2.2.2.2.2.2.2.2.2.2.2.2.2.2.2.1
  have hM_look : 0 ≤ m_look M ∧ m_look M ≤ 120 := hM.2.2.2.2.2.2.2.2.2.2.2.2.2.2.2.2.2.2.2.2.2.2.2.2
  have hN_0 := hN.1
  have hN_1 := hN.2.1
  have hN_2 := hN.2.2.1
  have hN_3 := hN.2.2.2.1
  refine r_aload_n C dX5_holds_0 hl 0 rfl ?_
  refine r_iload_n C dX5_holds_1 hl 1 rfl ?_
  refine r_callR (rest := []) (r := .int (iI (bI (0 ≤ n ∧ n ≤ (m_now M) 1 - 1)))) C hl.1 (c_X5_isNode l g o ad (m_refused M) (m_now M) (m_kept M) (m_states M) (m_place M) (m_startFact M) (m_node M) (m_fact M) (m_ahead M) (m_inside M) (m_entries M) (m_caller M) (m_following M) (m_firstCaller M) (m_lastCaller M) (m_callers M) (m_known M) (m_loose M) (m_stack M) (m_high M) (m_pairs M) (m_told M) (m_text M) (m_typed M) (m_orders M) (m_written M) (m_look M) n (by assumption) (show rg n by omega)) v_X5_101 rfl hW.1 0 rfl rfl rfl (by decide) (by decide) (Nat.le_of_ble_eq_true rfl) dX5_holds_2 rfl ?_
  refine r_ifb_eq C 16 dX5_holds_5 (by decide) (fun hc1 => ?_) (fun hc1 => ?_)
  · skip
    refine r_aload_n C dX5_holds_16 hl 0 rfl ?_
    refine r_callW (rest := []) (r := some (.int (iI (-2)))) (wr := []) (ws2 := mF g o ad (up ((m_refused M)) 0 ((m_refused M) 0 + 1)) (m_now M) (m_kept M) (m_states M) (m_place M) (m_startFact M) (m_node M) (m_fact M) (m_ahead M) (m_inside M) (m_entries M) (m_caller M) (m_following M) (m_firstCaller M) (m_lastCaller M) (m_callers M) (m_known M) (m_loose M) (m_stack M) (m_high M) (m_pairs M) (m_told M) (m_text M) (m_typed M) (m_orders M) (m_written M) (m_look M)) (st1 := [.int (iI (-2))]) C hl.1 hW hA (c_X5_bad l g o ad (m_refused M) (m_now M) (m_kept M) (m_states M) (m_place M) (m_startFact M) (m_node M) (m_fact M) (m_ahead M) (m_inside M) (m_entries M) (m_caller M) (m_following M) (m_firstCaller M) (m_lastCaller M) (m_callers M) (m_known M) (m_loose M) (m_stack M) (m_high M) (m_pairs M) (m_told M) (m_text M) (m_typed M) (m_orders M) (m_written M) (m_look M)) v_X5_68 rfl [0, 1, 2, 3, 4, 5, 6, 7, 8, 9, 10, 11, 12, 13, 14, 15, 16, 17, 18] [] [0, 1, 2, 3, 4, 5, 6, 7, 8, 9, 10, 11, 12, 13, 14, 15, 16, 17, 18] rfl rfl (by decide) (by decide) rfl rfl 0 rfl rfl rfl (by decide) (by decide) (Nat.le_of_ble_eq_true rfl) dX5_holds_17 rfl rfl (fun H locs hW => ?_)
    have hE : mHolds n M = (-2, (up ((m_refused M)) 0 ((m_refused M) 0 + 1), m_now M, m_kept M, m_states M, m_place M, m_startFact M, m_node M, m_fact M, m_ahead M, m_inside M, m_entries M, m_caller M, m_following M, m_firstCaller M, m_lastCaller M, m_callers M, m_known M, m_loose M, m_stack M, m_high M, m_pairs M, m_told M, m_text M, m_typed M, m_orders M, m_written M, m_look M)) := if_neg (by assumption)
    exact MW_iret C hAe hrt hlk hW dX5_holds_20 (iw (by rw [hE])) (by rw [hE])
  · skip
    refine r_aload_n C dX5_holds_8 hl 0 rfl ?_
    refine r_iload_n C dX5_holds_9 hl 1 rfl ?_
    refine r_callW (rest := []) (r := some (.int (iI (hHeld (m_place (mKn M)) n)))) (wr := []) (ws2 := mF g o ad (m_refused (mKn M)) (m_now (mKn M)) (m_kept (mKn M)) (m_states (mKn M)) (m_place (mKn M)) (m_startFact (mKn M)) (m_node (mKn M)) (m_fact (mKn M)) (m_ahead (mKn M)) (m_inside (mKn M)) (m_entries (mKn M)) (m_caller (mKn M)) (m_following (mKn M)) (m_firstCaller (mKn M)) (m_lastCaller (mKn M)) (m_callers (mKn M)) (m_known (mKn M)) (m_loose (mKn M)) (m_stack (mKn M)) (m_high (mKn M)) (m_pairs (mKn M)) (m_told (mKn M)) (m_text (mKn M)) (m_typed (mKn M)) (m_orders (mKn M)) (m_written (mKn M)) (m_look (mKn M))) (st1 := [.int (iI (hHeld (m_place (mKn M)) n))]) C hl.1 hW hA (c_X5_holdsAt l g o ad M n (mKn M) (by assumption) (by assumption) (by assumption) (show 0 ≤ n ∧ n < 24 by omega) rfl) v_X5_197 rfl [0, 1, 2, 3, 4, 5, 6, 7, 8, 9, 10, 11, 12, 13, 14, 15, 16, 17, 18] [] [0, 1, 2, 3, 4, 5, 6, 7, 8, 9, 10, 11, 12, 13, 14, 15, 16, 17, 18] rfl rfl (by decide) (by decide) rfl rfl 0 rfl rfl rfl (by decide) (by decide) (Nat.le_of_ble_eq_true rfl) dX5_holds_10 rfl rfl (fun H locs hW => ?_)
    refine r_goto C 20 dX5_holds_13 (by decide) ?_
    have hE : mHolds n M = (hHeld (m_place (mKn M)) n, (mKn M)) := if_pos (by assumption)
    exact MW_iret C hAe hrt hlk hW dX5_holds_20 (iw (by rw [hE])) (by rw [hE])
set_option maxHeartbeats 4000000 in
set_option maxRecDepth 100000 in
theorem c_X5_entry (l : Launch) (g : GG) (o : Nat) (ad : Nat → Nat) (M : Md) (i w : Int) (hM : mOk M) (hN : nOk (m_now M)) (hWf : nWf (m_now M)) (h_i : rg i) (h_w : rg w) : MW l g yX5_entry cX5_entry 3 (some .int) 7 168 [.ref (o), .int (iI (i)), .int (iI (w))] (mF g o ad (m_refused M) (m_now M) (m_kept M) (m_states M) (m_place M) (m_startFact M) (m_node M) (m_fact M) (m_ahead M) (m_inside M) (m_entries M) (m_caller M) (m_following M) (m_firstCaller M) (m_lastCaller M) (m_callers M) (m_known M) (m_loose M) (m_stack M) (m_high M) (m_pairs M) (m_told M) (m_text M) (m_typed M) (m_orders M) (m_written M) (m_look M)) (mF g o ad (m_refused ((mEntry i w M).2)) (m_now ((mEntry i w M).2)) (m_kept ((mEntry i w M).2)) (m_states ((mEntry i w M).2)) (m_place ((mEntry i w M).2)) (m_startFact ((mEntry i w M).2)) (m_node ((mEntry i w M).2)) (m_fact ((mEntry i w M).2)) (m_ahead ((mEntry i w M).2)) (m_inside ((mEntry i w M).2)) (m_entries ((mEntry i w M).2)) (m_caller ((mEntry i w M).2)) (m_following ((mEntry i w M).2)) (m_firstCaller ((mEntry i w M).2)) (m_lastCaller ((mEntry i w M).2)) (m_callers ((mEntry i w M).2)) (m_known ((mEntry i w M).2)) (m_loose ((mEntry i w M).2)) (m_stack ((mEntry i w M).2)) (m_high ((mEntry i w M).2)) (m_pairs ((mEntry i w M).2)) (m_told ((mEntry i w M).2)) (m_text ((mEntry i w M).2)) (m_typed ((mEntry i w M).2)) (m_orders ((mEntry i w M).2)) (m_written ((mEntry i w M).2)) (m_look ((mEntry i w M).2))) (some (.int (iI ((mEntry i w M).1)))) := by
  refine MW_start (by decide) (Nat.le_of_ble_eq_true rfl) ?_
  intro zp ze zs zm zb zt zc A hAe C hrt hlk hW ls hl
  have hA : ∀ q, zs.heap.size ≤ q → A q := fun q h => by rw [hAe]; exact Or.inr h
  have hl : lv_has ls 3 [(0, .ref (o)), (1, .int (iI (i))), (2, .int (iI (w)))] := hl
  have hM_refused : ∀ j : Int, 0 ≤ j → j < 3 → 0 ≤ m_refused M j ∧ m_refused M j ≤ 1000000 := hM.1
  have hM_states : 0 ≤ m_states M ∧ m_states M ≤ 5 := hM.2.1
  have hM_place : ∀ j : Int, 0 ≤ j → j < 1536 → 0 ≤ m_place M j ∧ m_place M j ≤ 1536 := hM.2.2.1
  have hM_startFact : ∀ j : Int, 0 ≤ j → j < 1536 → 0 ≤ m_startFact M j ∧ m_startFact M j ≤ 7 := hM.2.2.2.1
  have hM_node : ∀ j : Int, 0 ≤ j → j < 1536 → 0 ≤ m_node M j ∧ m_node M j ≤ 23 := hM.2.2.2.2.1
  have hM_fact : ∀ j : Int, 0 ≤ j → j < 1536 → 0 ≤ m_fact M j ∧ m_fact M j ≤ 7 := hM.2.2.2.2.2.1
  have hM_ahead : ∀ j : Int, 0 ≤ j → j < 1536 → -1 ≤ m_ahead M j ∧ m_ahead M j ≤ 1535 := hM.2.2.2.2.2.2.1
  have hM_inside : ∀ j : Int, 0 ≤ j → j < 1536 → -1 ≤ m_inside M j ∧ m_inside M j ≤ 1535 := hM.2.2.2.2.2.2.2.1
  have hM_entries : 0 ≤ m_entries M ∧ m_entries M ≤ 1536 := hM.2.2.2.2.2.2.2.2.1
  have hM_caller : ∀ j : Int, 0 ≤ j → j < 16384 → 0 ≤ m_caller M j ∧ m_caller M j ≤ 49151 := hM.2.2.2.2.2.2.2.2.2.1
  have hM_following : ∀ j : Int, 0 ≤ j → j < 16384 → -1 ≤ m_following M j ∧ m_following M j ≤ 16383 := hM.2.2.2.2.2.2.2.2.2.2.1
  have hM_firstCaller : ∀ j : Int, 0 ≤ j → j < 40 → -1 ≤ m_firstCaller M j ∧ m_firstCaller M j ≤ 16383 := hM.2.2.2.2.2.2.2.2.2.2.2.1
  have hM_lastCaller : ∀ j : Int, 0 ≤ j → j < 40 → -1 ≤ m_lastCaller M j ∧ m_lastCaller M j ≤ 16383 := hM.2.2.2.2.2.2.2.2.2.2.2.2.1
  have hM_callers : 0 ≤ m_callers M ∧ m_callers M ≤ 16384 := hM.2.2.2.2.2.2.2.2.2.2.2.2.2.1
  have hM_known : 0 ≤ m_known M ∧ m_known M ≤ 1 := hM.2.2.2.2.2.2.2.2.2.2.2.2.2.2.1
  have hM_loose : ∀ j : Int, 0 ≤ j → j < 24 → 0 ≤ m_loose M j ∧ m_loose M j ≤ 255 := hM.2.2.2.2.2.2.2.2.2.2.2.2.2.2.2.1
  have hM_stack : ∀ j : Int, 0 ≤ j → j < 8000 → 0 ≤ m_stack M j ∧ m_stack M j ≤ 6143 := hM.2.2.2.2.2.2.2.2.2.2.2.2.2.2.2.2.1
  have hM_high : 0 ≤ m_high M ∧ m_high M ≤ 8000 := hM.2.2.2.2.2.2.2.2.2.2.2.2.2.2.2.2.2.1
  have hM_pairs : ∀ j : Int, 0 ≤ j → j < 1000 → 0 ≤ m_pairs M j ∧ m_pairs M j ≤ 239 := hM.2.2.2.2.2.2.2.2.2.2.2.2.2.2.2.2.2.2.1
  have hM_told : 0 ≤ m_told M ∧ m_told M ≤ 1000 := hM.2.2.2.2.2.2.2.2.2.2.2.2.2.2.2.2.2.2.2.1
  have hM_text : ∀ j : Int, 0 ≤ j → j < 120 → 0 ≤ m_text M j ∧ m_text M j ≤ 127 := hM.2.2.2.2.2.2.2.2.2.2.2.2.2.2.2.2.2.2.2.2.1
  have hM_typed : 0 ≤ m_typed M ∧ m_typed M ≤ 120 := hM.2.2.2.2.2.2.2.2.2.2.2.2.2.2.2.2.2.2.2.2.2.1
  have hM_orders : ∀ j : Int, 0 ≤ j → j < 300 → 0 ≤ m_orders M j ∧ m_orders M j ≤ 999 := hM.2.2.2.2.2.2.2.2.2.2.2.2.2.2.2.2.2.2.2.2.2.2.1
  have hM_written : 0 ≤ m_written M ∧ m_written M ≤ 60 := hM.2.2.2.2.2.2.2.2.2.2.2.2.2.2.2.2.2.2.2.2.2.2.2.1
  have hM_look : 0 ≤ m_look M ∧ m_look M ≤ 120 := hM.2.2.2.2.2.2.2.2.2.2.2.2.2.2.2.2.2.2.2.2.2.2.2.2
  have hN_0 := hN.1
  have hN_1 := hN.2.1
  have hN_2 := hN.2.2.1
  have hN_3 := hN.2.2.2.1
  obtain ⟨K, hK⟩ : ∃ K, mKn M = K := ⟨_, rfl⟩
  have hKk := mKn_ok hM hN hWf
  rw [hK] at hKk
  have hKo : mOk K := hKk.1
  have hKn : m_now K = m_now M := hKk.2
  have hKN : nOk (m_now K) := by rw [hKn]; exact hN
  have hKN_0 := hKN.1
  have hKN_1 := hKN.2.1
  have hKN_2 := hKN.2.2.1
  have hKN_3 := hKN.2.2.2.1
  have hKo_refused : ∀ j : Int, 0 ≤ j → j < 3 → 0 ≤ m_refused K j ∧ m_refused K j ≤ 1000000 := hKo.1
  have hKo_states : 0 ≤ m_states K ∧ m_states K ≤ 5 := hKo.2.1
  have hKo_place : ∀ j : Int, 0 ≤ j → j < 1536 → 0 ≤ m_place K j ∧ m_place K j ≤ 1536 := hKo.2.2.1
  have hKo_startFact : ∀ j : Int, 0 ≤ j → j < 1536 → 0 ≤ m_startFact K j ∧ m_startFact K j ≤ 7 := hKo.2.2.2.1
  have hKo_node : ∀ j : Int, 0 ≤ j → j < 1536 → 0 ≤ m_node K j ∧ m_node K j ≤ 23 := hKo.2.2.2.2.1
  have hKo_fact : ∀ j : Int, 0 ≤ j → j < 1536 → 0 ≤ m_fact K j ∧ m_fact K j ≤ 7 := hKo.2.2.2.2.2.1
  have hKo_ahead : ∀ j : Int, 0 ≤ j → j < 1536 → -1 ≤ m_ahead K j ∧ m_ahead K j ≤ 1535 := hKo.2.2.2.2.2.2.1
  have hKo_inside : ∀ j : Int, 0 ≤ j → j < 1536 → -1 ≤ m_inside K j ∧ m_inside K j ≤ 1535 := hKo.2.2.2.2.2.2.2.1
  have hKo_entries : 0 ≤ m_entries K ∧ m_entries K ≤ 1536 := hKo.2.2.2.2.2.2.2.2.1
  have hKo_caller : ∀ j : Int, 0 ≤ j → j < 16384 → 0 ≤ m_caller K j ∧ m_caller K j ≤ 49151 := hKo.2.2.2.2.2.2.2.2.2.1
  have hKo_following : ∀ j : Int, 0 ≤ j → j < 16384 → -1 ≤ m_following K j ∧ m_following K j ≤ 16383 := hKo.2.2.2.2.2.2.2.2.2.2.1
  have hKo_firstCaller : ∀ j : Int, 0 ≤ j → j < 40 → -1 ≤ m_firstCaller K j ∧ m_firstCaller K j ≤ 16383 := hKo.2.2.2.2.2.2.2.2.2.2.2.1
  have hKo_lastCaller : ∀ j : Int, 0 ≤ j → j < 40 → -1 ≤ m_lastCaller K j ∧ m_lastCaller K j ≤ 16383 := hKo.2.2.2.2.2.2.2.2.2.2.2.2.1
  have hKo_callers : 0 ≤ m_callers K ∧ m_callers K ≤ 16384 := hKo.2.2.2.2.2.2.2.2.2.2.2.2.2.1
  have hKo_known : 0 ≤ m_known K ∧ m_known K ≤ 1 := hKo.2.2.2.2.2.2.2.2.2.2.2.2.2.2.1
  have hKo_loose : ∀ j : Int, 0 ≤ j → j < 24 → 0 ≤ m_loose K j ∧ m_loose K j ≤ 255 := hKo.2.2.2.2.2.2.2.2.2.2.2.2.2.2.2.1
  have hKo_stack : ∀ j : Int, 0 ≤ j → j < 8000 → 0 ≤ m_stack K j ∧ m_stack K j ≤ 6143 := hKo.2.2.2.2.2.2.2.2.2.2.2.2.2.2.2.2.1
  have hKo_high : 0 ≤ m_high K ∧ m_high K ≤ 8000 := hKo.2.2.2.2.2.2.2.2.2.2.2.2.2.2.2.2.2.1
  have hKo_pairs : ∀ j : Int, 0 ≤ j → j < 1000 → 0 ≤ m_pairs K j ∧ m_pairs K j ≤ 239 := hKo.2.2.2.2.2.2.2.2.2.2.2.2.2.2.2.2.2.2.1
  have hKo_told : 0 ≤ m_told K ∧ m_told K ≤ 1000 := hKo.2.2.2.2.2.2.2.2.2.2.2.2.2.2.2.2.2.2.2.1
  have hKo_text : ∀ j : Int, 0 ≤ j → j < 120 → 0 ≤ m_text K j ∧ m_text K j ≤ 127 := hKo.2.2.2.2.2.2.2.2.2.2.2.2.2.2.2.2.2.2.2.2.1
  have hKo_typed : 0 ≤ m_typed K ∧ m_typed K ≤ 120 := hKo.2.2.2.2.2.2.2.2.2.2.2.2.2.2.2.2.2.2.2.2.2.1
  have hKo_orders : ∀ j : Int, 0 ≤ j → j < 300 → 0 ≤ m_orders K j ∧ m_orders K j ≤ 999 := hKo.2.2.2.2.2.2.2.2.2.2.2.2.2.2.2.2.2.2.2.2.2.2.1
  have hKo_written : 0 ≤ m_written K ∧ m_written K ≤ 60 := hKo.2.2.2.2.2.2.2.2.2.2.2.2.2.2.2.2.2.2.2.2.2.2.2.1
  have hKo_look : 0 ≤ m_look K ∧ m_look K ≤ 120 := hKo.2.2.2.2.2.2.2.2.2.2.2.2.2.2.2.2.2.2.2.2.2.2.2.2
  refine r_iload_n C dX5_entry_0 hl 1 rfl ?_
  refine r_if_lt C 13 dX5_entry_1 (by decide) (by omega) (fun hc1 => ?_) (fun hc1 => ?_)
  · skip
    refine r_aload_n C dX5_entry_13 hl 0 rfl ?_
    refine r_callW (rest := []) (r := some (.int (iI (-2)))) (wr := []) (ws2 := mF g o ad (up ((m_refused M)) 0 ((m_refused M) 0 + 1)) (m_now M) (m_kept M) (m_states M) (m_place M) (m_startFact M) (m_node M) (m_fact M) (m_ahead M) (m_inside M) (m_entries M) (m_caller M) (m_following M) (m_firstCaller M) (m_lastCaller M) (m_callers M) (m_known M) (m_loose M) (m_stack M) (m_high M) (m_pairs M) (m_told M) (m_text M) (m_typed M) (m_orders M) (m_written M) (m_look M)) (st1 := [.int (iI (-2))]) C hl.1 hW hA (c_X5_bad l g o ad (m_refused M) (m_now M) (m_kept M) (m_states M) (m_place M) (m_startFact M) (m_node M) (m_fact M) (m_ahead M) (m_inside M) (m_entries M) (m_caller M) (m_following M) (m_firstCaller M) (m_lastCaller M) (m_callers M) (m_known M) (m_loose M) (m_stack M) (m_high M) (m_pairs M) (m_told M) (m_text M) (m_typed M) (m_orders M) (m_written M) (m_look M)) v_X5_68 rfl [0, 1, 2, 3, 4, 5, 6, 7, 8, 9, 10, 11, 12, 13, 14, 15, 16, 17, 18] [] [0, 1, 2, 3, 4, 5, 6, 7, 8, 9, 10, 11, 12, 13, 14, 15, 16, 17, 18] rfl rfl (by decide) (by decide) rfl rfl 0 rfl rfl rfl (by decide) (by decide) (Nat.le_of_ble_eq_true rfl) dX5_entry_14 rfl rfl (fun H locs hW => ?_)
    have hE : mEntry i w M = (-2, (up ((m_refused M)) 0 ((m_refused M) 0 + 1), m_now M, m_kept M, m_states M, m_place M, m_startFact M, m_node M, m_fact M, m_ahead M, m_inside M, m_entries M, m_caller M, m_following M, m_firstCaller M, m_lastCaller M, m_callers M, m_known M, m_loose M, m_stack M, m_high M, m_pairs M, m_told M, m_text M, m_typed M, m_orders M, m_written M, m_look M)) := if_neg (by omega)
    exact MW_iret C hAe hrt hlk hW dX5_entry_17 (iw (by rw [hE])) (by rw [hE])
  · skip
    refine r_iload_n C dX5_entry_4 hl 2 rfl ?_
    refine r_iconst (z := 0) C dX5_entry_5 rfl ?_
    refine r_iconst (z := 3) C dX5_entry_6 rfl ?_
    refine r_callRS (rest := []) (r := .int (iI (bI (0 ≤ w ∧ w ≤ 3)))) C hl.1 (c_X5_in l g  w 0 3 (show rg w by omega) (show rg 0 by omega) (show rg 3 by omega)) v_X5_89 rfl (fun k q h => by simp at h) (by decide) (by decide) (Nat.le_of_ble_eq_true rfl) dX5_entry_7 rfl ?_
    refine r_ifb_ne C 18 dX5_entry_10 (by decide) (fun hc2 => ?_) (fun hc2 => ?_)
    · skip
      refine r_aload_n C dX5_entry_18 hl 0 rfl ?_
      refine r_callW (rest := []) (r := none) (wr := []) (ws2 := mF g o ad (m_refused K) (m_now K) (m_kept K) (m_states K) (m_place K) (m_startFact K) (m_node K) (m_fact K) (m_ahead K) (m_inside K) (m_entries K) (m_caller K) (m_following K) (m_firstCaller K) (m_lastCaller K) (m_callers K) (m_known K) (m_loose K) (m_stack K) (m_high K) (m_pairs K) (m_told K) (m_text K) (m_typed K) (m_orders K) (m_written K) (m_look K)) (st1 := []) C hl.1 hW hA (c_X5_knows l g o ad M K (by assumption) (by assumption) (by assumption) hK) v_X5_188 rfl [0, 1, 2, 3, 4, 5, 6, 7, 8, 9, 10, 11, 12, 13, 14, 15, 16, 17, 18] [] [0, 1, 2, 3, 4, 5, 6, 7, 8, 9, 10, 11, 12, 13, 14, 15, 16, 17, 18] rfl rfl (by decide) (by decide) rfl rfl 0 rfl rfl rfl (by decide) (by decide) (Nat.le_of_ble_eq_true rfl) dX5_entry_19 rfl rfl (fun H locs hW => ?_)
      refine r_iload_n C dX5_entry_22 hl 1 rfl ?_
      refine r_aload_n C dX5_entry_23 hl 0 rfl ?_
      refine r_get (v := .int (iI (m_entries K))) C f_X5_155 hW.1 0 rfl rfl dX5_entry_24 ?_
      refine r_icmp_lt C 32 dX5_entry_27 (by decide) (by omega) (by omega) (fun hc3 => ?_) (fun hc3 => ?_)
      · skip
        refine r_iload_n C dX5_entry_32 hl 2 rfl ?_
        refine r_if_ne C 49 dX5_entry_33 (by decide) (by omega) (fun hc4 => ?_) (fun hc4 => ?_)
        · skip
          refine r_iload_n C dX5_entry_49 hl 2 rfl ?_
          refine r_iconst (z := 1) C dX5_entry_50 rfl ?_
          refine r_icmp_ne C 63 dX5_entry_51 (by decide) (by omega) (by omega) (fun hc5 => ?_) (fun hc5 => ?_)
          · skip
            refine r_iload_n C dX5_entry_63 hl 2 rfl ?_
            refine r_iconst (z := 2) C dX5_entry_64 rfl ?_
            refine r_icmp_ne C 77 dX5_entry_65 (by decide) (by omega) (by omega) (fun hc6 => ?_) (fun hc6 => ?_)
            · skip
              refine r_aload_n C dX5_entry_77 hl 0 rfl ?_
              refine r_get (v := .ref (ad 6)) C f_X5_28 hW.1 0 rfl rfl dX5_entry_78 ?_
              refine r_iload_n C dX5_entry_81 hl 1 rfl ?_
              refine r_iald (f := m_fact K) C hW.1 7 rfl (Nat.le_of_ble_eq_true rfl) (by omega) dX5_entry_82 ?_
              have hr7 := hKo_fact i (by omega) (by omega)
              have hE : mEntry i w M = (m_fact K i, K) := by unfold mEntry; rw [if_pos (by omega), hK]; exact Prod.ext (by unfold mEntA; (repeat' split) <;> first | rfl | (exfalso; omega)) rfl
              exact MW_iret C hAe hrt hlk hW dX5_entry_83 (iw (by rw [hE])) (by rw [hE])
            · skip
              refine r_aload_n C dX5_entry_68 hl 0 rfl ?_
              refine r_get (v := .ref (ad 5)) C f_X5_25 hW.1 0 rfl rfl dX5_entry_69 ?_
              refine r_iload_n C dX5_entry_72 hl 1 rfl ?_
              refine r_iald (f := m_node K) C hW.1 6 rfl (Nat.le_of_ble_eq_true rfl) (by omega) dX5_entry_73 ?_
              have hr8 := hKo_node i (by omega) (by omega)
              refine r_goto C 83 dX5_entry_74 (by decide) ?_
              have hE : mEntry i w M = (m_node K i, K) := by unfold mEntry; rw [if_pos (by omega), hK]; exact Prod.ext (by unfold mEntA; (repeat' split) <;> first | rfl | (exfalso; omega)) rfl
              exact MW_iret C hAe hrt hlk hW dX5_entry_83 (iw (by rw [hE])) (by rw [hE])
          · skip
            refine r_aload_n C dX5_entry_54 hl 0 rfl ?_
            refine r_get (v := .ref (ad 4)) C f_X5_22 hW.1 0 rfl rfl dX5_entry_55 ?_
            refine r_iload_n C dX5_entry_58 hl 1 rfl ?_
            refine r_iald (f := m_startFact K) C hW.1 5 rfl (Nat.le_of_ble_eq_true rfl) (by omega) dX5_entry_59 ?_
            have hr9 := hKo_startFact i (by omega) (by omega)
            refine r_goto C 83 dX5_entry_60 (by decide) ?_
            have hE : mEntry i w M = (m_startFact K i, K) := by unfold mEntry; rw [if_pos (by omega), hK]; exact Prod.ext (by unfold mEntA; (repeat' split) <;> first | rfl | (exfalso; omega)) rfl
            exact MW_iret C hAe hrt hlk hW dX5_entry_83 (iw (by rw [hE])) (by rw [hE])
        · skip
          refine r_aload_n C dX5_entry_36 hl 0 rfl ?_
          refine r_aload_n C dX5_entry_37 hl 0 rfl ?_
          refine r_get (v := .ref (ad 5)) C f_X5_25 hW.1 0 rfl rfl dX5_entry_38 ?_
          refine r_iload_n C dX5_entry_41 hl 1 rfl ?_
          refine r_iald (f := m_node K) C hW.1 6 rfl (Nat.le_of_ble_eq_true rfl) (by omega) dX5_entry_42 ?_
          have hr10 := hKo_node i (by omega) (by omega)
          refine r_callR (rest := []) (r := .int (iI ((m_now K) (14 + 2 * (m_node K i))))) C hl.1 (c_X5_procOf l g o ad (m_refused K) (m_now K) (m_kept K) (m_states K) (m_place K) (m_startFact K) (m_node K) (m_fact K) (m_ahead K) (m_inside K) (m_entries K) (m_caller K) (m_following K) (m_firstCaller K) (m_lastCaller K) (m_callers K) (m_known K) (m_loose K) (m_stack K) (m_high K) (m_pairs K) (m_told K) (m_text K) (m_typed K) (m_orders K) (m_written K) (m_look K) (m_node K i) (by assumption) (show 0 ≤ (m_node K i) ∧ (m_node K i) < 24 by omega)) v_X5_104 rfl hW.1 0 rfl rfl rfl (by decide) (by decide) (Nat.le_of_ble_eq_true rfl) dX5_entry_43 rfl ?_
          have hq11 := nProc_q ((m_now K)) (m_node K i) (by assumption) (by omega)
          refine r_goto C 83 dX5_entry_46 (by decide) ?_
          have hE : mEntry i w M = ((m_now K) (14 + 2 * (m_node K i)), K) := by unfold mEntry; rw [if_pos (by omega), hK]; exact Prod.ext (by unfold mEntA; (repeat' split) <;> first | rfl | (exfalso; omega)) rfl
          exact MW_iret C hAe hrt hlk hW dX5_entry_83 (iw (by rw [hE])) (by rw [hE])
      · skip
        refine r_iconst (z := -1) C dX5_entry_30 rfl ?_
        have hE : mEntry i w M = (-1, K) := by unfold mEntry; rw [if_pos (by omega), hK]; exact Prod.ext (by unfold mEntA; (repeat' split) <;> first | rfl | (exfalso; omega)) rfl
        exact MW_iret C hAe hrt hlk hW dX5_entry_31 (iw (by rw [hE])) (by rw [hE])
    · skip
      refine r_aload_n C dX5_entry_13 hl 0 rfl ?_
      refine r_callW (rest := []) (r := some (.int (iI (-2)))) (wr := []) (ws2 := mF g o ad (up ((m_refused M)) 0 ((m_refused M) 0 + 1)) (m_now M) (m_kept M) (m_states M) (m_place M) (m_startFact M) (m_node M) (m_fact M) (m_ahead M) (m_inside M) (m_entries M) (m_caller M) (m_following M) (m_firstCaller M) (m_lastCaller M) (m_callers M) (m_known M) (m_loose M) (m_stack M) (m_high M) (m_pairs M) (m_told M) (m_text M) (m_typed M) (m_orders M) (m_written M) (m_look M)) (st1 := [.int (iI (-2))]) C hl.1 hW hA (c_X5_bad l g o ad (m_refused M) (m_now M) (m_kept M) (m_states M) (m_place M) (m_startFact M) (m_node M) (m_fact M) (m_ahead M) (m_inside M) (m_entries M) (m_caller M) (m_following M) (m_firstCaller M) (m_lastCaller M) (m_callers M) (m_known M) (m_loose M) (m_stack M) (m_high M) (m_pairs M) (m_told M) (m_text M) (m_typed M) (m_orders M) (m_written M) (m_look M)) v_X5_68 rfl [0, 1, 2, 3, 4, 5, 6, 7, 8, 9, 10, 11, 12, 13, 14, 15, 16, 17, 18] [] [0, 1, 2, 3, 4, 5, 6, 7, 8, 9, 10, 11, 12, 13, 14, 15, 16, 17, 18] rfl rfl (by decide) (by decide) rfl rfl 0 rfl rfl rfl (by decide) (by decide) (Nat.le_of_ble_eq_true rfl) dX5_entry_14 rfl rfl (fun H locs hW => ?_)
      have hE : mEntry i w M = (-2, (up ((m_refused M)) 0 ((m_refused M) 0 + 1), m_now M, m_kept M, m_states M, m_place M, m_startFact M, m_node M, m_fact M, m_ahead M, m_inside M, m_entries M, m_caller M, m_following M, m_firstCaller M, m_lastCaller M, m_callers M, m_known M, m_loose M, m_stack M, m_high M, m_pairs M, m_told M, m_text M, m_typed M, m_orders M, m_written M, m_look M)) := if_neg (by omega)
      exact MW_iret C hAe hrt hlk hW dX5_entry_17 (iw (by rw [hE])) (by rw [hE])

set_option maxHeartbeats 4000000 in
set_option maxRecDepth 100000 in
theorem c_X5_byteAt (l : Launch) (g : GG) (o : Nat) (ad : Nat → Nat) (M_refused : (Int → Int)) (M_now : (Int → Int)) (M_kept : (Int → Int)) (M_states : Int) (M_place : (Int → Int)) (M_startFact : (Int → Int)) (M_node : (Int → Int)) (M_fact : (Int → Int)) (M_ahead : (Int → Int)) (M_inside : (Int → Int)) (M_entries : Int) (M_caller : (Int → Int)) (M_following : (Int → Int)) (M_firstCaller : (Int → Int)) (M_lastCaller : (Int → Int)) (M_callers : Int) (M_known : Int) (M_loose : (Int → Int)) (M_stack : (Int → Int)) (M_high : Int) (M_pairs : (Int → Int)) (M_told : Int) (M_text : (Int → Int)) (M_typed : Int) (M_orders : (Int → Int)) (M_written : Int) (M_look : Int) (p : Int) (hM : mOk (M_refused, M_now, M_kept, M_states, M_place, M_startFact, M_node, M_fact, M_ahead, M_inside, M_entries, M_caller, M_following, M_firstCaller, M_lastCaller, M_callers, M_known, M_loose, M_stack, M_high, M_pairs, M_told, M_text, M_typed, M_orders, M_written, M_look)) (hp : 0 ≤ p ∧ p < 1000) : MR l g yX5_byteAt cX5_byteAt 2 (some .int) 0 0 [.ref (o), .int (iI (p))] (mF g o ad (M_refused) (M_now) (M_kept) (M_states) (M_place) (M_startFact) (M_node) (M_fact) (M_ahead) (M_inside) (M_entries) (M_caller) (M_following) (M_firstCaller) (M_lastCaller) (M_callers) (M_known) (M_loose) (M_stack) (M_high) (M_pairs) (M_told) (M_text) (M_typed) (M_orders) (M_written) (M_look)) (.int (iI (if p < M_typed then M_text p else -1))) := by
  refine MR_start (by decide) (Nat.le_of_ble_eq_true rfl) ?_
  intro zp ze zs zm zb zt zc C hrt hlk hH ls hl
  have hl : lv_has ls 2 [(0, .ref (o)), (1, .int (iI (p)))] := hl
  have hM_refused : ∀ j : Int, 0 ≤ j → j < 3 → 0 ≤ M_refused j ∧ M_refused j ≤ 1000000 := hM.1
  have hM_states : 0 ≤ M_states ∧ M_states ≤ 5 := hM.2.1
  have hM_place : ∀ j : Int, 0 ≤ j → j < 1536 → 0 ≤ M_place j ∧ M_place j ≤ 1536 := hM.2.2.1
  have hM_startFact : ∀ j : Int, 0 ≤ j → j < 1536 → 0 ≤ M_startFact j ∧ M_startFact j ≤ 7 := hM.2.2.2.1
  have hM_node : ∀ j : Int, 0 ≤ j → j < 1536 → 0 ≤ M_node j ∧ M_node j ≤ 23 := hM.2.2.2.2.1
  have hM_fact : ∀ j : Int, 0 ≤ j → j < 1536 → 0 ≤ M_fact j ∧ M_fact j ≤ 7 := hM.2.2.2.2.2.1
  have hM_ahead : ∀ j : Int, 0 ≤ j → j < 1536 → -1 ≤ M_ahead j ∧ M_ahead j ≤ 1535 := hM.2.2.2.2.2.2.1
  have hM_inside : ∀ j : Int, 0 ≤ j → j < 1536 → -1 ≤ M_inside j ∧ M_inside j ≤ 1535 := hM.2.2.2.2.2.2.2.1
  have hM_entries : 0 ≤ M_entries ∧ M_entries ≤ 1536 := hM.2.2.2.2.2.2.2.2.1
  have hM_caller : ∀ j : Int, 0 ≤ j → j < 16384 → 0 ≤ M_caller j ∧ M_caller j ≤ 49151 := hM.2.2.2.2.2.2.2.2.2.1
  have hM_following : ∀ j : Int, 0 ≤ j → j < 16384 → -1 ≤ M_following j ∧ M_following j ≤ 16383 := hM.2.2.2.2.2.2.2.2.2.2.1
  have hM_firstCaller : ∀ j : Int, 0 ≤ j → j < 40 → -1 ≤ M_firstCaller j ∧ M_firstCaller j ≤ 16383 := hM.2.2.2.2.2.2.2.2.2.2.2.1
  have hM_lastCaller : ∀ j : Int, 0 ≤ j → j < 40 → -1 ≤ M_lastCaller j ∧ M_lastCaller j ≤ 16383 := hM.2.2.2.2.2.2.2.2.2.2.2.2.1
  have hM_callers : 0 ≤ M_callers ∧ M_callers ≤ 16384 := hM.2.2.2.2.2.2.2.2.2.2.2.2.2.1
  have hM_known : 0 ≤ M_known ∧ M_known ≤ 1 := hM.2.2.2.2.2.2.2.2.2.2.2.2.2.2.1
  have hM_loose : ∀ j : Int, 0 ≤ j → j < 24 → 0 ≤ M_loose j ∧ M_loose j ≤ 255 := hM.2.2.2.2.2.2.2.2.2.2.2.2.2.2.2.1
  have hM_stack : ∀ j : Int, 0 ≤ j → j < 8000 → 0 ≤ M_stack j ∧ M_stack j ≤ 6143 := hM.2.2.2.2.2.2.2.2.2.2.2.2.2.2.2.2.1
  have hM_high : 0 ≤ M_high ∧ M_high ≤ 8000 := hM.2.2.2.2.2.2.2.2.2.2.2.2.2.2.2.2.2.1
  have hM_pairs : ∀ j : Int, 0 ≤ j → j < 1000 → 0 ≤ M_pairs j ∧ M_pairs j ≤ 239 := hM.2.2.2.2.2.2.2.2.2.2.2.2.2.2.2.2.2.2.1
  have hM_told : 0 ≤ M_told ∧ M_told ≤ 1000 := hM.2.2.2.2.2.2.2.2.2.2.2.2.2.2.2.2.2.2.2.1
  have hM_text : ∀ j : Int, 0 ≤ j → j < 120 → 0 ≤ M_text j ∧ M_text j ≤ 127 := hM.2.2.2.2.2.2.2.2.2.2.2.2.2.2.2.2.2.2.2.2.1
  have hM_typed : 0 ≤ M_typed ∧ M_typed ≤ 120 := hM.2.2.2.2.2.2.2.2.2.2.2.2.2.2.2.2.2.2.2.2.2.1
  have hM_orders : ∀ j : Int, 0 ≤ j → j < 300 → 0 ≤ M_orders j ∧ M_orders j ≤ 999 := hM.2.2.2.2.2.2.2.2.2.2.2.2.2.2.2.2.2.2.2.2.2.2.1
  have hM_written : 0 ≤ M_written ∧ M_written ≤ 60 := hM.2.2.2.2.2.2.2.2.2.2.2.2.2.2.2.2.2.2.2.2.2.2.2.1
  have hM_look : 0 ≤ M_look ∧ M_look ≤ 120 := hM.2.2.2.2.2.2.2.2.2.2.2.2.2.2.2.2.2.2.2.2.2.2.2.2
  refine r_iload_n C dX5_byteAt_0 hl 1 rfl ?_
  refine r_aload_n C dX5_byteAt_1 hl 0 rfl ?_
  refine r_get (v := .int (iI (M_typed))) C f_X5_218 hH 0 rfl rfl dX5_byteAt_2 ?_
  refine r_icmp_ge C 17 dX5_byteAt_5 (by decide) (by omega) (by omega) (fun hc1 => ?_) (fun hc1 => ?_)
  · skip
    refine r_iconst (z := -1) C dX5_byteAt_17 rfl ?_
    exact MR_iret C hrt hlk dX5_byteAt_18 (iv (by split <;> first | rfl | omega))
  · skip
    refine r_aload_n C dX5_byteAt_8 hl 0 rfl ?_
    refine r_get (v := .ref (ad 16)) C f_X5_58 hH 0 rfl rfl dX5_byteAt_9 ?_
    refine r_iload_n C dX5_byteAt_12 hl 1 rfl ?_
    refine r_iald (f := M_text) C hH 17 rfl (Nat.le_of_ble_eq_true rfl) (by omega) dX5_byteAt_13 ?_
    have hr2 := hM_text p (by omega) (by omega)
    refine r_goto C 18 dX5_byteAt_14 (by decide) ?_
    exact MR_iret C hrt hlk dX5_byteAt_18 (iv (by split <;> first | rfl | omega))
set_option maxHeartbeats 4000000 in
set_option maxRecDepth 100000 in
theorem c_X5_isFigure (l : Launch) (g : GG) (o : Nat) (ad : Nat → Nat) (M_refused : (Int → Int)) (M_now : (Int → Int)) (M_kept : (Int → Int)) (M_states : Int) (M_place : (Int → Int)) (M_startFact : (Int → Int)) (M_node : (Int → Int)) (M_fact : (Int → Int)) (M_ahead : (Int → Int)) (M_inside : (Int → Int)) (M_entries : Int) (M_caller : (Int → Int)) (M_following : (Int → Int)) (M_firstCaller : (Int → Int)) (M_lastCaller : (Int → Int)) (M_callers : Int) (M_known : Int) (M_loose : (Int → Int)) (M_stack : (Int → Int)) (M_high : Int) (M_pairs : (Int → Int)) (M_told : Int) (M_text : (Int → Int)) (M_typed : Int) (M_orders : (Int → Int)) (M_written : Int) (M_look : Int) (p : Int) (hM : mOk (M_refused, M_now, M_kept, M_states, M_place, M_startFact, M_node, M_fact, M_ahead, M_inside, M_entries, M_caller, M_following, M_firstCaller, M_lastCaller, M_callers, M_known, M_loose, M_stack, M_high, M_pairs, M_told, M_text, M_typed, M_orders, M_written, M_look)) (hp : 0 ≤ p ∧ p < 1000) : MR l g yX5_isFigure cX5_isFigure 2 (some .boolean) 1 22 [.ref (o), .int (iI (p))] (mF g o ad (M_refused) (M_now) (M_kept) (M_states) (M_place) (M_startFact) (M_node) (M_fact) (M_ahead) (M_inside) (M_entries) (M_caller) (M_following) (M_firstCaller) (M_lastCaller) (M_callers) (M_known) (M_loose) (M_stack) (M_high) (M_pairs) (M_told) (M_text) (M_typed) (M_orders) (M_written) (M_look)) (.int (iI (bI (isFig (M_typed) (M_text) p)))) := by
  refine MR_start (by decide) (Nat.le_of_ble_eq_true rfl) ?_
  intro zp ze zs zm zb zt zc C hrt hlk hH ls hl
  have hl : lv_has ls 2 [(0, .ref (o)), (1, .int (iI (p)))] := hl
  have hM_refused : ∀ j : Int, 0 ≤ j → j < 3 → 0 ≤ M_refused j ∧ M_refused j ≤ 1000000 := hM.1
  have hM_states : 0 ≤ M_states ∧ M_states ≤ 5 := hM.2.1
  have hM_place : ∀ j : Int, 0 ≤ j → j < 1536 → 0 ≤ M_place j ∧ M_place j ≤ 1536 := hM.2.2.1
  have hM_startFact : ∀ j : Int, 0 ≤ j → j < 1536 → 0 ≤ M_startFact j ∧ M_startFact j ≤ 7 := hM.2.2.2.1
  have hM_node : ∀ j : Int, 0 ≤ j → j < 1536 → 0 ≤ M_node j ∧ M_node j ≤ 23 := hM.2.2.2.2.1
  have hM_fact : ∀ j : Int, 0 ≤ j → j < 1536 → 0 ≤ M_fact j ∧ M_fact j ≤ 7 := hM.2.2.2.2.2.1
  have hM_ahead : ∀ j : Int, 0 ≤ j → j < 1536 → -1 ≤ M_ahead j ∧ M_ahead j ≤ 1535 := hM.2.2.2.2.2.2.1
  have hM_inside : ∀ j : Int, 0 ≤ j → j < 1536 → -1 ≤ M_inside j ∧ M_inside j ≤ 1535 := hM.2.2.2.2.2.2.2.1
  have hM_entries : 0 ≤ M_entries ∧ M_entries ≤ 1536 := hM.2.2.2.2.2.2.2.2.1
  have hM_caller : ∀ j : Int, 0 ≤ j → j < 16384 → 0 ≤ M_caller j ∧ M_caller j ≤ 49151 := hM.2.2.2.2.2.2.2.2.2.1
  have hM_following : ∀ j : Int, 0 ≤ j → j < 16384 → -1 ≤ M_following j ∧ M_following j ≤ 16383 := hM.2.2.2.2.2.2.2.2.2.2.1
  have hM_firstCaller : ∀ j : Int, 0 ≤ j → j < 40 → -1 ≤ M_firstCaller j ∧ M_firstCaller j ≤ 16383 := hM.2.2.2.2.2.2.2.2.2.2.2.1
  have hM_lastCaller : ∀ j : Int, 0 ≤ j → j < 40 → -1 ≤ M_lastCaller j ∧ M_lastCaller j ≤ 16383 := hM.2.2.2.2.2.2.2.2.2.2.2.2.1
  have hM_callers : 0 ≤ M_callers ∧ M_callers ≤ 16384 := hM.2.2.2.2.2.2.2.2.2.2.2.2.2.1
  have hM_known : 0 ≤ M_known ∧ M_known ≤ 1 := hM.2.2.2.2.2.2.2.2.2.2.2.2.2.2.1
  have hM_loose : ∀ j : Int, 0 ≤ j → j < 24 → 0 ≤ M_loose j ∧ M_loose j ≤ 255 := hM.2.2.2.2.2.2.2.2.2.2.2.2.2.2.2.1
  have hM_stack : ∀ j : Int, 0 ≤ j → j < 8000 → 0 ≤ M_stack j ∧ M_stack j ≤ 6143 := hM.2.2.2.2.2.2.2.2.2.2.2.2.2.2.2.2.1
  have hM_high : 0 ≤ M_high ∧ M_high ≤ 8000 := hM.2.2.2.2.2.2.2.2.2.2.2.2.2.2.2.2.2.1
  have hM_pairs : ∀ j : Int, 0 ≤ j → j < 1000 → 0 ≤ M_pairs j ∧ M_pairs j ≤ 239 := hM.2.2.2.2.2.2.2.2.2.2.2.2.2.2.2.2.2.2.1
  have hM_told : 0 ≤ M_told ∧ M_told ≤ 1000 := hM.2.2.2.2.2.2.2.2.2.2.2.2.2.2.2.2.2.2.2.1
  have hM_text : ∀ j : Int, 0 ≤ j → j < 120 → 0 ≤ M_text j ∧ M_text j ≤ 127 := hM.2.2.2.2.2.2.2.2.2.2.2.2.2.2.2.2.2.2.2.2.1
  have hM_typed : 0 ≤ M_typed ∧ M_typed ≤ 120 := hM.2.2.2.2.2.2.2.2.2.2.2.2.2.2.2.2.2.2.2.2.2.1
  have hM_orders : ∀ j : Int, 0 ≤ j → j < 300 → 0 ≤ M_orders j ∧ M_orders j ≤ 999 := hM.2.2.2.2.2.2.2.2.2.2.2.2.2.2.2.2.2.2.2.2.2.2.1
  have hM_written : 0 ≤ M_written ∧ M_written ≤ 60 := hM.2.2.2.2.2.2.2.2.2.2.2.2.2.2.2.2.2.2.2.2.2.2.2.1
  have hM_look : 0 ≤ M_look ∧ M_look ≤ 120 := hM.2.2.2.2.2.2.2.2.2.2.2.2.2.2.2.2.2.2.2.2.2.2.2.2
  refine r_aload_n C dX5_isFigure_0 hl 0 rfl ?_
  refine r_iload_n C dX5_isFigure_1 hl 1 rfl ?_
  refine r_callR (rest := []) (r := .int (iI (if p < (M_typed) then (M_text) p else -1))) C hl.1 (c_X5_byteAt l g o ad (M_refused) (M_now) (M_kept) (M_states) (M_place) (M_startFact) (M_node) (M_fact) (M_ahead) (M_inside) (M_entries) (M_caller) (M_following) (M_firstCaller) (M_lastCaller) (M_callers) (M_known) (M_loose) (M_stack) (M_high) (M_pairs) (M_told) (M_text) (M_typed) (M_orders) (M_written) (M_look) p (by assumption) (show 0 ≤ p ∧ p < 1000 by omega)) v_X5_221 rfl hH 0 rfl rfl rfl (by decide) (by decide) (Nat.le_of_ble_eq_true rfl) dX5_isFigure_2 rfl ?_
  have hq1 := bAt_q ((M_typed)) ((M_text)) p (by assumption) (by omega) (by omega)
  refine r_bipush (z := 48) C dX5_isFigure_5 rfl ?_
  refine r_bipush (z := 57) C dX5_isFigure_7 rfl ?_
  refine r_callRS (rest := []) (r := .int (iI (bI (48 ≤ (if p < (M_typed) then (M_text) p else -1) ∧ (if p < (M_typed) then (M_text) p else -1) ≤ 57)))) C hl.1 (c_X5_in l g  (if p < (M_typed) then (M_text) p else -1) 48 57 (show rg (if p < (M_typed) then (M_text) p else -1) by omega) (show rg 48 by omega) (show rg 57 by omega)) v_X5_89 rfl (fun k q h => by simp at h) (by decide) (by decide) (Nat.le_of_ble_eq_true rfl) dX5_isFigure_9 rfl ?_
  exact MR_zret (d := isFig (M_typed) (M_text) p) C hrt hlk dX5_isFigure_12 (bI_iff (bAt_fig (M_typed) (M_text) p)) rfl
set_option maxHeartbeats 4000000 in
set_option maxRecDepth 100000 in
theorem c_X5_blanks (l : Launch) (g : GG) (o : Nat) (ad : Nat → Nat) (M_refused : (Int → Int)) (M_now : (Int → Int)) (M_kept : (Int → Int)) (M_states : Int) (M_place : (Int → Int)) (M_startFact : (Int → Int)) (M_node : (Int → Int)) (M_fact : (Int → Int)) (M_ahead : (Int → Int)) (M_inside : (Int → Int)) (M_entries : Int) (M_caller : (Int → Int)) (M_following : (Int → Int)) (M_firstCaller : (Int → Int)) (M_lastCaller : (Int → Int)) (M_callers : Int) (M_known : Int) (M_loose : (Int → Int)) (M_stack : (Int → Int)) (M_high : Int) (M_pairs : (Int → Int)) (M_told : Int) (M_text : (Int → Int)) (M_typed : Int) (M_orders : (Int → Int)) (M_written : Int) (M_look : Int) (hM : mOk (M_refused, M_now, M_kept, M_states, M_place, M_startFact, M_node, M_fact, M_ahead, M_inside, M_entries, M_caller, M_following, M_firstCaller, M_lastCaller, M_callers, M_known, M_loose, M_stack, M_high, M_pairs, M_told, M_text, M_typed, M_orders, M_written, M_look)) (hlk : M_look ≤ M_typed) : MW l g yX5_blanks cX5_blanks 1 none 1 21 [.ref (o)] (mF g o ad (M_refused) (M_now) (M_kept) (M_states) (M_place) (M_startFact) (M_node) (M_fact) (M_ahead) (M_inside) (M_entries) (M_caller) (M_following) (M_firstCaller) (M_lastCaller) (M_callers) (M_known) (M_loose) (M_stack) (M_high) (M_pairs) (M_told) (M_text) (M_typed) (M_orders) (M_written) (M_look)) (mF g o ad (M_refused) (M_now) (M_kept) (M_states) (M_place) (M_startFact) (M_node) (M_fact) (M_ahead) (M_inside) (M_entries) (M_caller) (M_following) (M_firstCaller) (M_lastCaller) (M_callers) (M_known) (M_loose) (M_stack) (M_high) (M_pairs) (M_told) (M_text) (M_typed) (M_orders) (M_written) (skT (M_typed) (M_text) (M_look))) none := by
  refine MW_start (by decide) (Nat.le_of_ble_eq_true rfl) ?_
  intro zp ze zs zm zb zt zc A hAe C hrt hlk hW ls hl
  have hA : ∀ q, zs.heap.size ≤ q → A q := fun q h => by rw [hAe]; exact Or.inr h
  have hl : lv_has ls 1 [(0, .ref (o))] := hl
  have hM_refused : ∀ j : Int, 0 ≤ j → j < 3 → 0 ≤ M_refused j ∧ M_refused j ≤ 1000000 := hM.1
  have hM_states : 0 ≤ M_states ∧ M_states ≤ 5 := hM.2.1
  have hM_place : ∀ j : Int, 0 ≤ j → j < 1536 → 0 ≤ M_place j ∧ M_place j ≤ 1536 := hM.2.2.1
  have hM_startFact : ∀ j : Int, 0 ≤ j → j < 1536 → 0 ≤ M_startFact j ∧ M_startFact j ≤ 7 := hM.2.2.2.1
  have hM_node : ∀ j : Int, 0 ≤ j → j < 1536 → 0 ≤ M_node j ∧ M_node j ≤ 23 := hM.2.2.2.2.1
  have hM_fact : ∀ j : Int, 0 ≤ j → j < 1536 → 0 ≤ M_fact j ∧ M_fact j ≤ 7 := hM.2.2.2.2.2.1
  have hM_ahead : ∀ j : Int, 0 ≤ j → j < 1536 → -1 ≤ M_ahead j ∧ M_ahead j ≤ 1535 := hM.2.2.2.2.2.2.1
  have hM_inside : ∀ j : Int, 0 ≤ j → j < 1536 → -1 ≤ M_inside j ∧ M_inside j ≤ 1535 := hM.2.2.2.2.2.2.2.1
  have hM_entries : 0 ≤ M_entries ∧ M_entries ≤ 1536 := hM.2.2.2.2.2.2.2.2.1
  have hM_caller : ∀ j : Int, 0 ≤ j → j < 16384 → 0 ≤ M_caller j ∧ M_caller j ≤ 49151 := hM.2.2.2.2.2.2.2.2.2.1
  have hM_following : ∀ j : Int, 0 ≤ j → j < 16384 → -1 ≤ M_following j ∧ M_following j ≤ 16383 := hM.2.2.2.2.2.2.2.2.2.2.1
  have hM_firstCaller : ∀ j : Int, 0 ≤ j → j < 40 → -1 ≤ M_firstCaller j ∧ M_firstCaller j ≤ 16383 := hM.2.2.2.2.2.2.2.2.2.2.2.1
  have hM_lastCaller : ∀ j : Int, 0 ≤ j → j < 40 → -1 ≤ M_lastCaller j ∧ M_lastCaller j ≤ 16383 := hM.2.2.2.2.2.2.2.2.2.2.2.2.1
  have hM_callers : 0 ≤ M_callers ∧ M_callers ≤ 16384 := hM.2.2.2.2.2.2.2.2.2.2.2.2.2.1
  have hM_known : 0 ≤ M_known ∧ M_known ≤ 1 := hM.2.2.2.2.2.2.2.2.2.2.2.2.2.2.1
  have hM_loose : ∀ j : Int, 0 ≤ j → j < 24 → 0 ≤ M_loose j ∧ M_loose j ≤ 255 := hM.2.2.2.2.2.2.2.2.2.2.2.2.2.2.2.1
  have hM_stack : ∀ j : Int, 0 ≤ j → j < 8000 → 0 ≤ M_stack j ∧ M_stack j ≤ 6143 := hM.2.2.2.2.2.2.2.2.2.2.2.2.2.2.2.2.1
  have hM_high : 0 ≤ M_high ∧ M_high ≤ 8000 := hM.2.2.2.2.2.2.2.2.2.2.2.2.2.2.2.2.2.1
  have hM_pairs : ∀ j : Int, 0 ≤ j → j < 1000 → 0 ≤ M_pairs j ∧ M_pairs j ≤ 239 := hM.2.2.2.2.2.2.2.2.2.2.2.2.2.2.2.2.2.2.1
  have hM_told : 0 ≤ M_told ∧ M_told ≤ 1000 := hM.2.2.2.2.2.2.2.2.2.2.2.2.2.2.2.2.2.2.2.1
  have hM_text : ∀ j : Int, 0 ≤ j → j < 120 → 0 ≤ M_text j ∧ M_text j ≤ 127 := hM.2.2.2.2.2.2.2.2.2.2.2.2.2.2.2.2.2.2.2.2.1
  have hM_typed : 0 ≤ M_typed ∧ M_typed ≤ 120 := hM.2.2.2.2.2.2.2.2.2.2.2.2.2.2.2.2.2.2.2.2.2.1
  have hM_orders : ∀ j : Int, 0 ≤ j → j < 300 → 0 ≤ M_orders j ∧ M_orders j ≤ 999 := hM.2.2.2.2.2.2.2.2.2.2.2.2.2.2.2.2.2.2.2.2.2.2.1
  have hM_written : 0 ≤ M_written ∧ M_written ≤ 60 := hM.2.2.2.2.2.2.2.2.2.2.2.2.2.2.2.2.2.2.2.2.2.2.2.1
  have hM_look : 0 ≤ M_look ∧ M_look ≤ 120 := hM.2.2.2.2.2.2.2.2.2.2.2.2.2.2.2.2.2.2.2.2.2.2.2.2
  have hloop0 : ∀ (k0 : Nat) (q : Int) (hkk : q + k0 = M_typed) (hq0 : 0 ≤ q) (hq : skT (M_typed) (M_text) (M_look) = skB (M_typed) (M_text) k0 q) (H : Heap) (locs : List Loc) (ls : Array Slot), HW g A zs.heap (mF g o ad (M_refused) (M_now) (M_kept) (M_states) (M_place) (M_startFact) (M_node) (M_fact) (M_ahead) (M_inside) (M_entries) (M_caller) (M_following) (M_firstCaller) (M_lastCaller) (M_callers) (M_known) (M_loose) (M_stack) (M_high) (M_pairs) (M_told) (M_text) (M_typed) (M_orders) (M_written) q) H locs → lv_has ls 1 [(0, .ref (o))] → W zp l ze (rmm 1 21) zs zm (List.toArray [.ref (o)]) zb zt zc H locs 0 0 (MQ zb (QW g (mF g o ad (M_refused) (M_now) (M_kept) (M_states) (M_place) (M_startFact) (M_node) (M_fact) (M_ahead) (M_inside) (M_entries) (M_caller) (M_following) (M_firstCaller) (M_lastCaller) (M_callers) (M_known) (M_loose) (M_stack) (M_high) (M_pairs) (M_told) (M_text) (M_typed) (M_orders) (M_written) (M_look)) (mF g o ad (M_refused) (M_now) (M_kept) (M_states) (M_place) (M_startFact) (M_node) (M_fact) (M_ahead) (M_inside) (M_entries) (M_caller) (M_following) (M_firstCaller) (M_lastCaller) (M_callers) (M_known) (M_loose) (M_stack) (M_high) (M_pairs) (M_told) (M_text) (M_typed) (M_orders) (M_written) (skT (M_typed) (M_text) (M_look))) zs.heap.size none) (List.toArray [.ref (o)]) zs 0 0 A) (F0 zm 0 ls []) := by
    intro k0
    induction k0 with
    | zero =>
      intro q hkk hq0 hq H locs ls hW hl
      refine r_aload_n C dX5_blanks_0 hl 0 rfl ?_
      refine r_aload_n C dX5_blanks_1 hl 0 rfl ?_
      refine r_get (v := .int (iI (q))) C f_X5_224 hW.1 0 rfl rfl dX5_blanks_2 ?_
      refine r_callR (rest := []) (r := .int (iI (if q < (M_typed) then (M_text) q else -1))) C hl.1 (c_X5_byteAt l g o ad (M_refused) (M_now) (M_kept) (M_states) (M_place) (M_startFact) (M_node) (M_fact) (M_ahead) (M_inside) (M_entries) (M_caller) (M_following) (M_firstCaller) (M_lastCaller) (M_callers) (M_known) (M_loose) (M_stack) (M_high) (M_pairs) (M_told) (M_text) (M_typed) (M_orders) (M_written) q q (mOk_look hM (by omega)) (show 0 ≤ q ∧ q < 1000 by omega)) v_X5_221 rfl hW.1 0 rfl rfl rfl (by decide) (by decide) (Nat.le_of_ble_eq_true rfl) dX5_blanks_5 rfl ?_
      have hq1 := bAt_q ((M_typed)) ((M_text)) q (by assumption) (by omega) (by omega)
      have hbq := bAt_s (M_typed) (M_text) q
      refine r_bipush (z := 32) C dX5_blanks_8 rfl ?_
      refine r_icmp_ne C 26 dX5_blanks_10 (by decide) (by omega) (by omega) (fun hc2 => ?_) (fun hc2 => ?_)
      · skip
        exact MW_vret C hAe hrt hlk hW dX5_blanks_26 rfl (by rw [hq]; first | rfl | (congr 1; show _ = (if _ then _ else _); rw [if_neg]; omega))
      · exact absurd hc2 (by omega)
    | succ k0 ih0 =>
      intro q hkk hq0 hq H locs ls hW hl
      refine r_aload_n C dX5_blanks_0 hl 0 rfl ?_
      refine r_aload_n C dX5_blanks_1 hl 0 rfl ?_
      refine r_get (v := .int (iI (q))) C f_X5_224 hW.1 0 rfl rfl dX5_blanks_2 ?_
      refine r_callR (rest := []) (r := .int (iI (if q < (M_typed) then (M_text) q else -1))) C hl.1 (c_X5_byteAt l g o ad (M_refused) (M_now) (M_kept) (M_states) (M_place) (M_startFact) (M_node) (M_fact) (M_ahead) (M_inside) (M_entries) (M_caller) (M_following) (M_firstCaller) (M_lastCaller) (M_callers) (M_known) (M_loose) (M_stack) (M_high) (M_pairs) (M_told) (M_text) (M_typed) (M_orders) (M_written) q q (mOk_look hM (by omega)) (show 0 ≤ q ∧ q < 1000 by omega)) v_X5_221 rfl hW.1 0 rfl rfl rfl (by decide) (by decide) (Nat.le_of_ble_eq_true rfl) dX5_blanks_5 rfl ?_
      have hq3 := bAt_q ((M_typed)) ((M_text)) q (by assumption) (by omega) (by omega)
      have hbq := bAt_s (M_typed) (M_text) q
      refine r_bipush (z := 32) C dX5_blanks_8 rfl ?_
      refine r_icmp_ne C 26 dX5_blanks_10 (by decide) (by omega) (by omega) (fun hc4 => ?_) (fun hc4 => ?_)
      · skip
        exact MW_vret C hAe hrt hlk hW dX5_blanks_26 rfl (by rw [hq]; first | rfl | (congr 1; show _ = (if _ then _ else _); rw [if_neg]; omega))
      · skip
        refine r_aload_n C dX5_blanks_13 hl 0 rfl ?_
        refine r_dup C rfl dX5_blanks_14 ?_
        refine r_get (v := .int (iI (q))) C f_X5_224 hW.1 0 rfl rfl dX5_blanks_15 ?_
        refine r_iconst (z := 1) C dX5_blanks_18 rfl ?_
        refine r_iadd C dX5_blanks_19 ?_
        refine r_put C f_X5_224 fp_5_26 hW (mF g o ad (M_refused) (M_now) (M_kept) (M_states) (M_place) (M_startFact) (M_node) (M_fact) (M_ahead) (M_inside) (M_entries) (M_caller) (M_following) (M_firstCaller) (M_lastCaller) (M_callers) (M_known) (M_loose) (M_stack) (M_high) (M_pairs) (M_told) (M_text) (M_typed) (M_orders) (M_written) (q + 1)) 0 rfl rfl rfl (Nat.le_of_ble_eq_true rfl) rfl dX5_blanks_20 (fun H locs hW => ?_)
        refine r_goto C 0 dX5_blanks_23 (by decide) ?_
        exact ih0 (q + 1) (by omega) (by omega) (by rw [hq]; show (if _ then _ else _) = _; exact if_pos (by split at * <;> omega)) _ _ ls hW (lv_sub hl [0] rfl)
  exact hloop0 (M_typed - M_look).toNat (M_look) (by omega) (by omega) rfl _ _ ls hW (lv_sub hl [0] rfl)
set_option maxHeartbeats 4000000 in
set_option maxRecDepth 100000 in
theorem c_X5_wants (l : Launch) (g : GG) (c : Int) (hc : rg c) : MR l g yX5_wants cX5_wants 1 (some .int) 0 0 [.int (iI (c))] ([]) (.int (iI (xBehind c))) := by
  refine MR_start (by decide) (Nat.le_of_ble_eq_true rfl) ?_
  intro zp ze zs zm zb zt zc C hrt hlk hH ls hl
  have hl : lv_has ls 1 [(0, .int (iI (c)))] := hl
  refine r_iload_n C dX5_wants_0 hl 0 rfl ?_
  refine r_bipush (z := 112) C dX5_wants_1 rfl ?_
  refine r_icmp_ne C 10 dX5_wants_3 (by decide) (by omega) (by omega) (fun hc1 => ?_) (fun hc1 => ?_)
  · skip
    refine r_iload_n C dX5_wants_10 hl 0 rfl ?_
    refine r_bipush (z := 110) C dX5_wants_11 rfl ?_
    refine r_icmp_eq C 28 dX5_wants_13 (by decide) (by omega) (by omega) (fun hc2 => ?_) (fun hc2 => ?_)
    · skip
      refine r_iconst (z := 1) C dX5_wants_28 rfl ?_
      refine r_goto C 63 dX5_wants_29 (by decide) ?_
      exact MR_iret C hrt hlk dX5_wants_63 (iv (by unfold xBehind; (repeat' split) <;> omega))
    · skip
      refine r_iload_n C dX5_wants_16 hl 0 rfl ?_
      refine r_bipush (z := 115) C dX5_wants_17 rfl ?_
      refine r_icmp_eq C 28 dX5_wants_19 (by decide) (by omega) (by omega) (fun hc3 => ?_) (fun hc3 => ?_)
      · skip
        refine r_iconst (z := 1) C dX5_wants_28 rfl ?_
        refine r_goto C 63 dX5_wants_29 (by decide) ?_
        exact MR_iret C hrt hlk dX5_wants_63 (iv (by unfold xBehind; (repeat' split) <;> omega))
      · skip
        refine r_iload_n C dX5_wants_22 hl 0 rfl ?_
        refine r_bipush (z := 120) C dX5_wants_23 rfl ?_
        refine r_icmp_ne C 32 dX5_wants_25 (by decide) (by omega) (by omega) (fun hc4 => ?_) (fun hc4 => ?_)
        · skip
          refine r_iload_n C dX5_wants_32 hl 0 rfl ?_
          refine r_bipush (z := 101) C dX5_wants_33 rfl ?_
          refine r_icmp_ne C 42 dX5_wants_35 (by decide) (by omega) (by omega) (fun hc5 => ?_) (fun hc5 => ?_)
          · skip
            refine r_iload_n C dX5_wants_42 hl 0 rfl ?_
            refine r_bipush (z := 99) C dX5_wants_43 rfl ?_
            refine r_icmp_ne C 52 dX5_wants_45 (by decide) (by omega) (by omega) (fun hc6 => ?_) (fun hc6 => ?_)
            · skip
              refine r_iload_n C dX5_wants_52 hl 0 rfl ?_
              refine r_bipush (z := 102) C dX5_wants_53 rfl ?_
              refine r_icmp_ne C 62 dX5_wants_55 (by decide) (by omega) (by omega) (fun hc7 => ?_) (fun hc7 => ?_)
              · skip
                refine r_iconst (z := -1) C dX5_wants_62 rfl ?_
                exact MR_iret C hrt hlk dX5_wants_63 (iv (by unfold xBehind; (repeat' split) <;> omega))
              · skip
                refine r_iconst (z := 4) C dX5_wants_58 rfl ?_
                refine r_goto C 63 dX5_wants_59 (by decide) ?_
                exact MR_iret C hrt hlk dX5_wants_63 (iv (by unfold xBehind; (repeat' split) <;> omega))
            · skip
              refine r_iconst (z := 3) C dX5_wants_48 rfl ?_
              refine r_goto C 63 dX5_wants_49 (by decide) ?_
              exact MR_iret C hrt hlk dX5_wants_63 (iv (by unfold xBehind; (repeat' split) <;> omega))
          · skip
            refine r_iconst (z := 2) C dX5_wants_38 rfl ?_
            refine r_goto C 63 dX5_wants_39 (by decide) ?_
            exact MR_iret C hrt hlk dX5_wants_63 (iv (by unfold xBehind; (repeat' split) <;> omega))
        · skip
          refine r_iconst (z := 1) C dX5_wants_28 rfl ?_
          refine r_goto C 63 dX5_wants_29 (by decide) ?_
          exact MR_iret C hrt hlk dX5_wants_63 (iv (by unfold xBehind; (repeat' split) <;> omega))
  · skip
    refine r_iconst (z := 0) C dX5_wants_6 rfl ?_
    refine r_goto C 63 dX5_wants_7 (by decide) ?_
    exact MR_iret C hrt hlk dX5_wants_63 (iv (by unfold xBehind; (repeat' split) <;> omega))
set_option maxHeartbeats 4000000 in
set_option maxRecDepth 100000 in
theorem c_X5_toldOf (l : Launch) (g : GG) (o : Nat) (ad : Nat → Nat) (M_refused : (Int → Int)) (M_now : (Int → Int)) (M_kept : (Int → Int)) (M_states : Int) (M_place : (Int → Int)) (M_startFact : (Int → Int)) (M_node : (Int → Int)) (M_fact : (Int → Int)) (M_ahead : (Int → Int)) (M_inside : (Int → Int)) (M_entries : Int) (M_caller : (Int → Int)) (M_following : (Int → Int)) (M_firstCaller : (Int → Int)) (M_lastCaller : (Int → Int)) (M_callers : Int) (M_known : Int) (M_loose : (Int → Int)) (M_stack : (Int → Int)) (M_high : Int) (M_pairs : (Int → Int)) (M_told : Int) (M_text : (Int → Int)) (M_typed : Int) (M_orders : (Int → Int)) (M_written : Int) (M_look : Int) (w : Int) (hM : mOk (M_refused, M_now, M_kept, M_states, M_place, M_startFact, M_node, M_fact, M_ahead, M_inside, M_entries, M_caller, M_following, M_firstCaller, M_lastCaller, M_callers, M_known, M_loose, M_stack, M_high, M_pairs, M_told, M_text, M_typed, M_orders, M_written, M_look)) (hw : 0 ≤ w ∧ w ≤ 4) : MR l g yX5_toldOf cX5_toldOf 2 (some .int) 0 0 [.ref (o), .int (iI (w))] (mF g o ad (M_refused) (M_now) (M_kept) (M_states) (M_place) (M_startFact) (M_node) (M_fact) (M_ahead) (M_inside) (M_entries) (M_caller) (M_following) (M_firstCaller) (M_lastCaller) (M_callers) (M_known) (M_loose) (M_stack) (M_high) (M_pairs) (M_told) (M_text) (M_typed) (M_orders) (M_written) (M_look)) (.int (iI (mTold (M_refused, M_now, M_kept, M_states, M_place, M_startFact, M_node, M_fact, M_ahead, M_inside, M_entries, M_caller, M_following, M_firstCaller, M_lastCaller, M_callers, M_known, M_loose, M_stack, M_high, M_pairs, M_told, M_text, M_typed, M_orders, M_written, M_look) w))) := by
  refine MR_start (by decide) (Nat.le_of_ble_eq_true rfl) ?_
  intro zp ze zs zm zb zt zc C hrt hlk hH ls hl
  have hl : lv_has ls 2 [(0, .ref (o)), (1, .int (iI (w)))] := hl
  have hM_refused : ∀ j : Int, 0 ≤ j → j < 3 → 0 ≤ M_refused j ∧ M_refused j ≤ 1000000 := hM.1
  have hM_states : 0 ≤ M_states ∧ M_states ≤ 5 := hM.2.1
  have hM_place : ∀ j : Int, 0 ≤ j → j < 1536 → 0 ≤ M_place j ∧ M_place j ≤ 1536 := hM.2.2.1
  have hM_startFact : ∀ j : Int, 0 ≤ j → j < 1536 → 0 ≤ M_startFact j ∧ M_startFact j ≤ 7 := hM.2.2.2.1
  have hM_node : ∀ j : Int, 0 ≤ j → j < 1536 → 0 ≤ M_node j ∧ M_node j ≤ 23 := hM.2.2.2.2.1
  have hM_fact : ∀ j : Int, 0 ≤ j → j < 1536 → 0 ≤ M_fact j ∧ M_fact j ≤ 7 := hM.2.2.2.2.2.1
  have hM_ahead : ∀ j : Int, 0 ≤ j → j < 1536 → -1 ≤ M_ahead j ∧ M_ahead j ≤ 1535 := hM.2.2.2.2.2.2.1
  have hM_inside : ∀ j : Int, 0 ≤ j → j < 1536 → -1 ≤ M_inside j ∧ M_inside j ≤ 1535 := hM.2.2.2.2.2.2.2.1
  have hM_entries : 0 ≤ M_entries ∧ M_entries ≤ 1536 := hM.2.2.2.2.2.2.2.2.1
  have hM_caller : ∀ j : Int, 0 ≤ j → j < 16384 → 0 ≤ M_caller j ∧ M_caller j ≤ 49151 := hM.2.2.2.2.2.2.2.2.2.1
  have hM_following : ∀ j : Int, 0 ≤ j → j < 16384 → -1 ≤ M_following j ∧ M_following j ≤ 16383 := hM.2.2.2.2.2.2.2.2.2.2.1
  have hM_firstCaller : ∀ j : Int, 0 ≤ j → j < 40 → -1 ≤ M_firstCaller j ∧ M_firstCaller j ≤ 16383 := hM.2.2.2.2.2.2.2.2.2.2.2.1
  have hM_lastCaller : ∀ j : Int, 0 ≤ j → j < 40 → -1 ≤ M_lastCaller j ∧ M_lastCaller j ≤ 16383 := hM.2.2.2.2.2.2.2.2.2.2.2.2.1
  have hM_callers : 0 ≤ M_callers ∧ M_callers ≤ 16384 := hM.2.2.2.2.2.2.2.2.2.2.2.2.2.1
  have hM_known : 0 ≤ M_known ∧ M_known ≤ 1 := hM.2.2.2.2.2.2.2.2.2.2.2.2.2.2.1
  have hM_loose : ∀ j : Int, 0 ≤ j → j < 24 → 0 ≤ M_loose j ∧ M_loose j ≤ 255 := hM.2.2.2.2.2.2.2.2.2.2.2.2.2.2.2.1
  have hM_stack : ∀ j : Int, 0 ≤ j → j < 8000 → 0 ≤ M_stack j ∧ M_stack j ≤ 6143 := hM.2.2.2.2.2.2.2.2.2.2.2.2.2.2.2.2.1
  have hM_high : 0 ≤ M_high ∧ M_high ≤ 8000 := hM.2.2.2.2.2.2.2.2.2.2.2.2.2.2.2.2.2.1
  have hM_pairs : ∀ j : Int, 0 ≤ j → j < 1000 → 0 ≤ M_pairs j ∧ M_pairs j ≤ 239 := hM.2.2.2.2.2.2.2.2.2.2.2.2.2.2.2.2.2.2.1
  have hM_told : 0 ≤ M_told ∧ M_told ≤ 1000 := hM.2.2.2.2.2.2.2.2.2.2.2.2.2.2.2.2.2.2.2.1
  have hM_text : ∀ j : Int, 0 ≤ j → j < 120 → 0 ≤ M_text j ∧ M_text j ≤ 127 := hM.2.2.2.2.2.2.2.2.2.2.2.2.2.2.2.2.2.2.2.2.1
  have hM_typed : 0 ≤ M_typed ∧ M_typed ≤ 120 := hM.2.2.2.2.2.2.2.2.2.2.2.2.2.2.2.2.2.2.2.2.2.1
  have hM_orders : ∀ j : Int, 0 ≤ j → j < 300 → 0 ≤ M_orders j ∧ M_orders j ≤ 999 := hM.2.2.2.2.2.2.2.2.2.2.2.2.2.2.2.2.2.2.2.2.2.2.1
  have hM_written : 0 ≤ M_written ∧ M_written ≤ 60 := hM.2.2.2.2.2.2.2.2.2.2.2.2.2.2.2.2.2.2.2.2.2.2.2.1
  have hM_look : 0 ≤ M_look ∧ M_look ≤ 120 := hM.2.2.2.2.2.2.2.2.2.2.2.2.2.2.2.2.2.2.2.2.2.2.2.2
  refine r_iload_n C dX5_toldOf_0 hl 1 rfl ?_
  refine r_iconst (z := 3) C dX5_toldOf_1 rfl ?_
  refine r_icmp_ge C 14 dX5_toldOf_2 (by decide) (by omega) (by omega) (fun hc1 => ?_) (fun hc1 => ?_)
  · skip
    refine r_iload_n C dX5_toldOf_14 hl 1 rfl ?_
    refine r_iconst (z := 3) C dX5_toldOf_15 rfl ?_
    refine r_icmp_ne C 26 dX5_toldOf_16 (by decide) (by omega) (by omega) (fun hc2 => ?_) (fun hc2 => ?_)
    · skip
      refine r_aload_n C dX5_toldOf_26 hl 0 rfl ?_
      refine r_get (v := .int (iI (M_states))) C f_X5_81 hH 0 rfl rfl dX5_toldOf_27 ?_
      exact MR_iret C hrt hlk dX5_toldOf_30 (iv (by unfold mTold; dsimp only [m_refused, m_now, m_kept, m_states, m_place, m_startFact, m_node, m_fact, m_ahead, m_inside, m_entries, m_caller, m_following, m_firstCaller, m_lastCaller, m_callers, m_known, m_loose, m_stack, m_high, m_pairs, m_told, m_text, m_typed, m_orders, m_written, m_look]; (repeat' split) <;> first | rfl | (exfalso; omega)))
    · skip
      refine r_aload_n C dX5_toldOf_19 hl 0 rfl ?_
      refine r_get (v := .int (iI (M_typed))) C f_X5_218 hH 0 rfl rfl dX5_toldOf_20 ?_
      refine r_goto C 30 dX5_toldOf_23 (by decide) ?_
      exact MR_iret C hrt hlk dX5_toldOf_30 (iv (by unfold mTold; dsimp only [m_refused, m_now, m_kept, m_states, m_place, m_startFact, m_node, m_fact, m_ahead, m_inside, m_entries, m_caller, m_following, m_firstCaller, m_lastCaller, m_callers, m_known, m_loose, m_stack, m_high, m_pairs, m_told, m_text, m_typed, m_orders, m_written, m_look]; (repeat' split) <;> first | rfl | (exfalso; omega)))
  · skip
    refine r_aload_n C dX5_toldOf_5 hl 0 rfl ?_
    refine r_get (v := .ref (ad 0)) C f_X5_7 hH 0 rfl rfl dX5_toldOf_6 ?_
    refine r_iload_n C dX5_toldOf_9 hl 1 rfl ?_
    refine r_iald (f := M_refused) C hH 1 rfl (Nat.le_of_ble_eq_true rfl) (by omega) dX5_toldOf_10 ?_
    have hr3 := hM_refused w (by omega) (by omega)
    refine r_goto C 30 dX5_toldOf_11 (by decide) ?_
    exact MR_iret C hrt hlk dX5_toldOf_30 (iv (by unfold mTold; dsimp only [m_refused, m_now, m_kept, m_states, m_place, m_startFact, m_node, m_fact, m_ahead, m_inside, m_entries, m_caller, m_following, m_firstCaller, m_lastCaller, m_callers, m_known, m_loose, m_stack, m_high, m_pairs, m_told, m_text, m_typed, m_orders, m_written, m_look]; (repeat' split) <;> first | rfl | (exfalso; omega)))
set_option maxHeartbeats 4000000 in
set_option maxRecDepth 100000 in
theorem c_X5_told (l : Launch) (g : GG) (o : Nat) (ad : Nat → Nat) (M_refused : (Int → Int)) (M_now : (Int → Int)) (M_kept : (Int → Int)) (M_states : Int) (M_place : (Int → Int)) (M_startFact : (Int → Int)) (M_node : (Int → Int)) (M_fact : (Int → Int)) (M_ahead : (Int → Int)) (M_inside : (Int → Int)) (M_entries : Int) (M_caller : (Int → Int)) (M_following : (Int → Int)) (M_firstCaller : (Int → Int)) (M_lastCaller : (Int → Int)) (M_callers : Int) (M_known : Int) (M_loose : (Int → Int)) (M_stack : (Int → Int)) (M_high : Int) (M_pairs : (Int → Int)) (M_told : Int) (M_text : (Int → Int)) (M_typed : Int) (M_orders : (Int → Int)) (M_written : Int) (M_look : Int) (w : Int) (hM : mOk (M_refused, M_now, M_kept, M_states, M_place, M_startFact, M_node, M_fact, M_ahead, M_inside, M_entries, M_caller, M_following, M_firstCaller, M_lastCaller, M_callers, M_known, M_loose, M_stack, M_high, M_pairs, M_told, M_text, M_typed, M_orders, M_written, M_look)) (h_w : rg w) : MW l g yX5_told cX5_told 2 (some .int) 1 22 [.ref (o), .int (iI (w))] (mF g o ad (M_refused) (M_now) (M_kept) (M_states) (M_place) (M_startFact) (M_node) (M_fact) (M_ahead) (M_inside) (M_entries) (M_caller) (M_following) (M_firstCaller) (M_lastCaller) (M_callers) (M_known) (M_loose) (M_stack) (M_high) (M_pairs) (M_told) (M_text) (M_typed) (M_orders) (M_written) (M_look)) (mF g o ad (m_refused ((mToldA w (M_refused, M_now, M_kept, M_states, M_place, M_startFact, M_node, M_fact, M_ahead, M_inside, M_entries, M_caller, M_following, M_firstCaller, M_lastCaller, M_callers, M_known, M_loose, M_stack, M_high, M_pairs, M_told, M_text, M_typed, M_orders, M_written, M_look)).2)) (m_now ((mToldA w (M_refused, M_now, M_kept, M_states, M_place, M_startFact, M_node, M_fact, M_ahead, M_inside, M_entries, M_caller, M_following, M_firstCaller, M_lastCaller, M_callers, M_known, M_loose, M_stack, M_high, M_pairs, M_told, M_text, M_typed, M_orders, M_written, M_look)).2)) (m_kept ((mToldA w (M_refused, M_now, M_kept, M_states, M_place, M_startFact, M_node, M_fact, M_ahead, M_inside, M_entries, M_caller, M_following, M_firstCaller, M_lastCaller, M_callers, M_known, M_loose, M_stack, M_high, M_pairs, M_told, M_text, M_typed, M_orders, M_written, M_look)).2)) (m_states ((mToldA w (M_refused, M_now, M_kept, M_states, M_place, M_startFact, M_node, M_fact, M_ahead, M_inside, M_entries, M_caller, M_following, M_firstCaller, M_lastCaller, M_callers, M_known, M_loose, M_stack, M_high, M_pairs, M_told, M_text, M_typed, M_orders, M_written, M_look)).2)) (m_place ((mToldA w (M_refused, M_now, M_kept, M_states, M_place, M_startFact, M_node, M_fact, M_ahead, M_inside, M_entries, M_caller, M_following, M_firstCaller, M_lastCaller, M_callers, M_known, M_loose, M_stack, M_high, M_pairs, M_told, M_text, M_typed, M_orders, M_written, M_look)).2)) (m_startFact ((mToldA w (M_refused, M_now, M_kept, M_states, M_place, M_startFact, M_node, M_fact, M_ahead, M_inside, M_entries, M_caller, M_following, M_firstCaller, M_lastCaller, M_callers, M_known, M_loose, M_stack, M_high, M_pairs, M_told, M_text, M_typed, M_orders, M_written, M_look)).2)) (m_node ((mToldA w (M_refused, M_now, M_kept, M_states, M_place, M_startFact, M_node, M_fact, M_ahead, M_inside, M_entries, M_caller, M_following, M_firstCaller, M_lastCaller, M_callers, M_known, M_loose, M_stack, M_high, M_pairs, M_told, M_text, M_typed, M_orders, M_written, M_look)).2)) (m_fact ((mToldA w (M_refused, M_now, M_kept, M_states, M_place, M_startFact, M_node, M_fact, M_ahead, M_inside, M_entries, M_caller, M_following, M_firstCaller, M_lastCaller, M_callers, M_known, M_loose, M_stack, M_high, M_pairs, M_told, M_text, M_typed, M_orders, M_written, M_look)).2)) (m_ahead ((mToldA w (M_refused, M_now, M_kept, M_states, M_place, M_startFact, M_node, M_fact, M_ahead, M_inside, M_entries, M_caller, M_following, M_firstCaller, M_lastCaller, M_callers, M_known, M_loose, M_stack, M_high, M_pairs, M_told, M_text, M_typed, M_orders, M_written, M_look)).2)) (m_inside ((mToldA w (M_refused, M_now, M_kept, M_states, M_place, M_startFact, M_node, M_fact, M_ahead, M_inside, M_entries, M_caller, M_following, M_firstCaller, M_lastCaller, M_callers, M_known, M_loose, M_stack, M_high, M_pairs, M_told, M_text, M_typed, M_orders, M_written, M_look)).2)) (m_entries ((mToldA w (M_refused, M_now, M_kept, M_states, M_place, M_startFact, M_node, M_fact, M_ahead, M_inside, M_entries, M_caller, M_following, M_firstCaller, M_lastCaller, M_callers, M_known, M_loose, M_stack, M_high, M_pairs, M_told, M_text, M_typed, M_orders, M_written, M_look)).2)) (m_caller ((mToldA w (M_refused, M_now, M_kept, M_states, M_place, M_startFact, M_node, M_fact, M_ahead, M_inside, M_entries, M_caller, M_following, M_firstCaller, M_lastCaller, M_callers, M_known, M_loose, M_stack, M_high, M_pairs, M_told, M_text, M_typed, M_orders, M_written, M_look)).2)) (m_following ((mToldA w (M_refused, M_now, M_kept, M_states, M_place, M_startFact, M_node, M_fact, M_ahead, M_inside, M_entries, M_caller, M_following, M_firstCaller, M_lastCaller, M_callers, M_known, M_loose, M_stack, M_high, M_pairs, M_told, M_text, M_typed, M_orders, M_written, M_look)).2)) (m_firstCaller ((mToldA w (M_refused, M_now, M_kept, M_states, M_place, M_startFact, M_node, M_fact, M_ahead, M_inside, M_entries, M_caller, M_following, M_firstCaller, M_lastCaller, M_callers, M_known, M_loose, M_stack, M_high, M_pairs, M_told, M_text, M_typed, M_orders, M_written, M_look)).2)) (m_lastCaller ((mToldA w (M_refused, M_now, M_kept, M_states, M_place, M_startFact, M_node, M_fact, M_ahead, M_inside, M_entries, M_caller, M_following, M_firstCaller, M_lastCaller, M_callers, M_known, M_loose, M_stack, M_high, M_pairs, M_told, M_text, M_typed, M_orders, M_written, M_look)).2)) (m_callers ((mToldA w (M_refused, M_now, M_kept, M_states, M_place, M_startFact, M_node, M_fact, M_ahead, M_inside, M_entries, M_caller, M_following, M_firstCaller, M_lastCaller, M_callers, M_known, M_loose, M_stack, M_high, M_pairs, M_told, M_text, M_typed, M_orders, M_written, M_look)).2)) (m_known ((mToldA w (M_refused, M_now, M_kept, M_states, M_place, M_startFact, M_node, M_fact, M_ahead, M_inside, M_entries, M_caller, M_following, M_firstCaller, M_lastCaller, M_callers, M_known, M_loose, M_stack, M_high, M_pairs, M_told, M_text, M_typed, M_orders, M_written, M_look)).2)) (m_loose ((mToldA w (M_refused, M_now, M_kept, M_states, M_place, M_startFact, M_node, M_fact, M_ahead, M_inside, M_entries, M_caller, M_following, M_firstCaller, M_lastCaller, M_callers, M_known, M_loose, M_stack, M_high, M_pairs, M_told, M_text, M_typed, M_orders, M_written, M_look)).2)) (m_stack ((mToldA w (M_refused, M_now, M_kept, M_states, M_place, M_startFact, M_node, M_fact, M_ahead, M_inside, M_entries, M_caller, M_following, M_firstCaller, M_lastCaller, M_callers, M_known, M_loose, M_stack, M_high, M_pairs, M_told, M_text, M_typed, M_orders, M_written, M_look)).2)) (m_high ((mToldA w (M_refused, M_now, M_kept, M_states, M_place, M_startFact, M_node, M_fact, M_ahead, M_inside, M_entries, M_caller, M_following, M_firstCaller, M_lastCaller, M_callers, M_known, M_loose, M_stack, M_high, M_pairs, M_told, M_text, M_typed, M_orders, M_written, M_look)).2)) (m_pairs ((mToldA w (M_refused, M_now, M_kept, M_states, M_place, M_startFact, M_node, M_fact, M_ahead, M_inside, M_entries, M_caller, M_following, M_firstCaller, M_lastCaller, M_callers, M_known, M_loose, M_stack, M_high, M_pairs, M_told, M_text, M_typed, M_orders, M_written, M_look)).2)) (m_told ((mToldA w (M_refused, M_now, M_kept, M_states, M_place, M_startFact, M_node, M_fact, M_ahead, M_inside, M_entries, M_caller, M_following, M_firstCaller, M_lastCaller, M_callers, M_known, M_loose, M_stack, M_high, M_pairs, M_told, M_text, M_typed, M_orders, M_written, M_look)).2)) (m_text ((mToldA w (M_refused, M_now, M_kept, M_states, M_place, M_startFact, M_node, M_fact, M_ahead, M_inside, M_entries, M_caller, M_following, M_firstCaller, M_lastCaller, M_callers, M_known, M_loose, M_stack, M_high, M_pairs, M_told, M_text, M_typed, M_orders, M_written, M_look)).2)) (m_typed ((mToldA w (M_refused, M_now, M_kept, M_states, M_place, M_startFact, M_node, M_fact, M_ahead, M_inside, M_entries, M_caller, M_following, M_firstCaller, M_lastCaller, M_callers, M_known, M_loose, M_stack, M_high, M_pairs, M_told, M_text, M_typed, M_orders, M_written, M_look)).2)) (m_orders ((mToldA w (M_refused, M_now, M_kept, M_states, M_place, M_startFact, M_node, M_fact, M_ahead, M_inside, M_entries, M_caller, M_following, M_firstCaller, M_lastCaller, M_callers, M_known, M_loose, M_stack, M_high, M_pairs, M_told, M_text, M_typed, M_orders, M_written, M_look)).2)) (m_written ((mToldA w (M_refused, M_now, M_kept, M_states, M_place, M_startFact, M_node, M_fact, M_ahead, M_inside, M_entries, M_caller, M_following, M_firstCaller, M_lastCaller, M_callers, M_known, M_loose, M_stack, M_high, M_pairs, M_told, M_text, M_typed, M_orders, M_written, M_look)).2)) (m_look ((mToldA w (M_refused, M_now, M_kept, M_states, M_place, M_startFact, M_node, M_fact, M_ahead, M_inside, M_entries, M_caller, M_following, M_firstCaller, M_lastCaller, M_callers, M_known, M_loose, M_stack, M_high, M_pairs, M_told, M_text, M_typed, M_orders, M_written, M_look)).2))) (some (.int (iI ((mToldA w (M_refused, M_now, M_kept, M_states, M_place, M_startFact, M_node, M_fact, M_ahead, M_inside, M_entries, M_caller, M_following, M_firstCaller, M_lastCaller, M_callers, M_known, M_loose, M_stack, M_high, M_pairs, M_told, M_text, M_typed, M_orders, M_written, M_look)).1)))) := by
  refine MW_start (by decide) (Nat.le_of_ble_eq_true rfl) ?_
  intro zp ze zs zm zb zt zc A hAe C hrt hlk hW ls hl
  have hA : ∀ q, zs.heap.size ≤ q → A q := fun q h => by rw [hAe]; exact Or.inr h
  have hl : lv_has ls 2 [(0, .ref (o)), (1, .int (iI (w)))] := hl
  have hM_refused : ∀ j : Int, 0 ≤ j → j < 3 → 0 ≤ M_refused j ∧ M_refused j ≤ 1000000 := hM.1
  have hM_states : 0 ≤ M_states ∧ M_states ≤ 5 := hM.2.1
  have hM_place : ∀ j : Int, 0 ≤ j → j < 1536 → 0 ≤ M_place j ∧ M_place j ≤ 1536 := hM.2.2.1
  have hM_startFact : ∀ j : Int, 0 ≤ j → j < 1536 → 0 ≤ M_startFact j ∧ M_startFact j ≤ 7 := hM.2.2.2.1
  have hM_node : ∀ j : Int, 0 ≤ j → j < 1536 → 0 ≤ M_node j ∧ M_node j ≤ 23 := hM.2.2.2.2.1
  have hM_fact : ∀ j : Int, 0 ≤ j → j < 1536 → 0 ≤ M_fact j ∧ M_fact j ≤ 7 := hM.2.2.2.2.2.1
  have hM_ahead : ∀ j : Int, 0 ≤ j → j < 1536 → -1 ≤ M_ahead j ∧ M_ahead j ≤ 1535 := hM.2.2.2.2.2.2.1
  have hM_inside : ∀ j : Int, 0 ≤ j → j < 1536 → -1 ≤ M_inside j ∧ M_inside j ≤ 1535 := hM.2.2.2.2.2.2.2.1
  have hM_entries : 0 ≤ M_entries ∧ M_entries ≤ 1536 := hM.2.2.2.2.2.2.2.2.1
  have hM_caller : ∀ j : Int, 0 ≤ j → j < 16384 → 0 ≤ M_caller j ∧ M_caller j ≤ 49151 := hM.2.2.2.2.2.2.2.2.2.1
  have hM_following : ∀ j : Int, 0 ≤ j → j < 16384 → -1 ≤ M_following j ∧ M_following j ≤ 16383 := hM.2.2.2.2.2.2.2.2.2.2.1
  have hM_firstCaller : ∀ j : Int, 0 ≤ j → j < 40 → -1 ≤ M_firstCaller j ∧ M_firstCaller j ≤ 16383 := hM.2.2.2.2.2.2.2.2.2.2.2.1
  have hM_lastCaller : ∀ j : Int, 0 ≤ j → j < 40 → -1 ≤ M_lastCaller j ∧ M_lastCaller j ≤ 16383 := hM.2.2.2.2.2.2.2.2.2.2.2.2.1
  have hM_callers : 0 ≤ M_callers ∧ M_callers ≤ 16384 := hM.2.2.2.2.2.2.2.2.2.2.2.2.2.1
  have hM_known : 0 ≤ M_known ∧ M_known ≤ 1 := hM.2.2.2.2.2.2.2.2.2.2.2.2.2.2.1
  have hM_loose : ∀ j : Int, 0 ≤ j → j < 24 → 0 ≤ M_loose j ∧ M_loose j ≤ 255 := hM.2.2.2.2.2.2.2.2.2.2.2.2.2.2.2.1
  have hM_stack : ∀ j : Int, 0 ≤ j → j < 8000 → 0 ≤ M_stack j ∧ M_stack j ≤ 6143 := hM.2.2.2.2.2.2.2.2.2.2.2.2.2.2.2.2.1
  have hM_high : 0 ≤ M_high ∧ M_high ≤ 8000 := hM.2.2.2.2.2.2.2.2.2.2.2.2.2.2.2.2.2.1
  have hM_pairs : ∀ j : Int, 0 ≤ j → j < 1000 → 0 ≤ M_pairs j ∧ M_pairs j ≤ 239 := hM.2.2.2.2.2.2.2.2.2.2.2.2.2.2.2.2.2.2.1
  have hM_told : 0 ≤ M_told ∧ M_told ≤ 1000 := hM.2.2.2.2.2.2.2.2.2.2.2.2.2.2.2.2.2.2.2.1
  have hM_text : ∀ j : Int, 0 ≤ j → j < 120 → 0 ≤ M_text j ∧ M_text j ≤ 127 := hM.2.2.2.2.2.2.2.2.2.2.2.2.2.2.2.2.2.2.2.2.1
  have hM_typed : 0 ≤ M_typed ∧ M_typed ≤ 120 := hM.2.2.2.2.2.2.2.2.2.2.2.2.2.2.2.2.2.2.2.2.2.1
  have hM_orders : ∀ j : Int, 0 ≤ j → j < 300 → 0 ≤ M_orders j ∧ M_orders j ≤ 999 := hM.2.2.2.2.2.2.2.2.2.2.2.2.2.2.2.2.2.2.2.2.2.2.1
  have hM_written : 0 ≤ M_written ∧ M_written ≤ 60 := hM.2.2.2.2.2.2.2.2.2.2.2.2.2.2.2.2.2.2.2.2.2.2.2.1
  have hM_look : 0 ≤ M_look ∧ M_look ≤ 120 := hM.2.2.2.2.2.2.2.2.2.2.2.2.2.2.2.2.2.2.2.2.2.2.2.2
  refine r_iload_n C dX5_told_0 hl 1 rfl ?_
  refine r_iconst (z := 0) C dX5_told_1 rfl ?_
  refine r_iconst (z := 4) C dX5_told_2 rfl ?_
  refine r_callRS (rest := []) (r := .int (iI (bI (0 ≤ w ∧ w ≤ 4)))) C hl.1 (c_X5_in l g  w 0 4 (show rg w by omega) (show rg 0 by omega) (show rg 4 by omega)) v_X5_89 rfl (fun k q h => by simp at h) (by decide) (by decide) (Nat.le_of_ble_eq_true rfl) dX5_told_3 rfl ?_
  refine r_ifb_eq C 17 dX5_told_6 (by decide) (fun hc1 => ?_) (fun hc1 => ?_)
  · skip
    refine r_aload_n C dX5_told_17 hl 0 rfl ?_
    refine r_callW (rest := []) (r := some (.int (iI (-2)))) (wr := []) (ws2 := mF g o ad (up ((M_refused)) 0 ((M_refused) 0 + 1)) (M_now) (M_kept) (M_states) (M_place) (M_startFact) (M_node) (M_fact) (M_ahead) (M_inside) (M_entries) (M_caller) (M_following) (M_firstCaller) (M_lastCaller) (M_callers) (M_known) (M_loose) (M_stack) (M_high) (M_pairs) (M_told) (M_text) (M_typed) (M_orders) (M_written) (M_look)) (st1 := [.int (iI (-2))]) C hl.1 hW hA (c_X5_bad l g o ad (M_refused) (M_now) (M_kept) (M_states) (M_place) (M_startFact) (M_node) (M_fact) (M_ahead) (M_inside) (M_entries) (M_caller) (M_following) (M_firstCaller) (M_lastCaller) (M_callers) (M_known) (M_loose) (M_stack) (M_high) (M_pairs) (M_told) (M_text) (M_typed) (M_orders) (M_written) (M_look)) v_X5_68 rfl [0, 1, 2, 3, 4, 5, 6, 7, 8, 9, 10, 11, 12, 13, 14, 15, 16, 17, 18] [] [0, 1, 2, 3, 4, 5, 6, 7, 8, 9, 10, 11, 12, 13, 14, 15, 16, 17, 18] rfl rfl (by decide) (by decide) rfl rfl 0 rfl rfl rfl (by decide) (by decide) (Nat.le_of_ble_eq_true rfl) dX5_told_18 rfl rfl (fun H locs hW => ?_)
    have hE : mToldA w (M_refused, M_now, M_kept, M_states, M_place, M_startFact, M_node, M_fact, M_ahead, M_inside, M_entries, M_caller, M_following, M_firstCaller, M_lastCaller, M_callers, M_known, M_loose, M_stack, M_high, M_pairs, M_told, M_text, M_typed, M_orders, M_written, M_look) = (-2, (up ((M_refused)) 0 ((M_refused) 0 + 1), M_now, M_kept, M_states, M_place, M_startFact, M_node, M_fact, M_ahead, M_inside, M_entries, M_caller, M_following, M_firstCaller, M_lastCaller, M_callers, M_known, M_loose, M_stack, M_high, M_pairs, M_told, M_text, M_typed, M_orders, M_written, M_look)) := if_neg (by assumption)
    exact MW_iret C hAe hrt hlk hW dX5_told_21 (iw (by rw [hE])) (by rw [hE])
  · skip
    refine r_aload_n C dX5_told_9 hl 0 rfl ?_
    refine r_iload_n C dX5_told_10 hl 1 rfl ?_
    refine r_callR (rest := []) (r := .int (iI (mTold (M_refused, M_now, M_kept, M_states, M_place, M_startFact, M_node, M_fact, M_ahead, M_inside, M_entries, M_caller, M_following, M_firstCaller, M_lastCaller, M_callers, M_known, M_loose, M_stack, M_high, M_pairs, M_told, M_text, M_typed, M_orders, M_written, M_look) w))) C hl.1 (c_X5_toldOf l g o ad (M_refused) (M_now) (M_kept) (M_states) (M_place) (M_startFact) (M_node) (M_fact) (M_ahead) (M_inside) (M_entries) (M_caller) (M_following) (M_firstCaller) (M_lastCaller) (M_callers) (M_known) (M_loose) (M_stack) (M_high) (M_pairs) (M_told) (M_text) (M_typed) (M_orders) (M_written) (M_look) w (by assumption) (show 0 ≤ w ∧ w ≤ 4 by omega)) v_X5_249 rfl hW.1 0 rfl rfl rfl (by decide) (by decide) (Nat.le_of_ble_eq_true rfl) dX5_told_11 rfl ?_
    have hq2 := mTold_q (M_refused, M_now, M_kept, M_states, M_place, M_startFact, M_node, M_fact, M_ahead, M_inside, M_entries, M_caller, M_following, M_firstCaller, M_lastCaller, M_callers, M_known, M_loose, M_stack, M_high, M_pairs, M_told, M_text, M_typed, M_orders, M_written, M_look) w (by assumption) (by omega)
    refine r_goto C 21 dX5_told_14 (by decide) ?_
    have hE : mToldA w (M_refused, M_now, M_kept, M_states, M_place, M_startFact, M_node, M_fact, M_ahead, M_inside, M_entries, M_caller, M_following, M_firstCaller, M_lastCaller, M_callers, M_known, M_loose, M_stack, M_high, M_pairs, M_told, M_text, M_typed, M_orders, M_written, M_look) = (mTold (M_refused, M_now, M_kept, M_states, M_place, M_startFact, M_node, M_fact, M_ahead, M_inside, M_entries, M_caller, M_following, M_firstCaller, M_lastCaller, M_callers, M_known, M_loose, M_stack, M_high, M_pairs, M_told, M_text, M_typed, M_orders, M_written, M_look) w, (M_refused, M_now, M_kept, M_states, M_place, M_startFact, M_node, M_fact, M_ahead, M_inside, M_entries, M_caller, M_following, M_firstCaller, M_lastCaller, M_callers, M_known, M_loose, M_stack, M_high, M_pairs, M_told, M_text, M_typed, M_orders, M_written, M_look)) := if_pos (by assumption)
    exact MW_iret C hAe hrt hlk hW dX5_told_21 (iw (by rw [hE])) (by rw [hE])
set_option maxHeartbeats 4000000 in
set_option maxRecDepth 100000 in
theorem c_X5_type (l : Launch) (g : GG) (o : Nat) (ad : Nat → Nat) (M_refused : (Int → Int)) (M_now : (Int → Int)) (M_kept : (Int → Int)) (M_states : Int) (M_place : (Int → Int)) (M_startFact : (Int → Int)) (M_node : (Int → Int)) (M_fact : (Int → Int)) (M_ahead : (Int → Int)) (M_inside : (Int → Int)) (M_entries : Int) (M_caller : (Int → Int)) (M_following : (Int → Int)) (M_firstCaller : (Int → Int)) (M_lastCaller : (Int → Int)) (M_callers : Int) (M_known : Int) (M_loose : (Int → Int)) (M_stack : (Int → Int)) (M_high : Int) (M_pairs : (Int → Int)) (M_told : Int) (M_text : (Int → Int)) (M_typed : Int) (M_orders : (Int → Int)) (M_written : Int) (M_look : Int) (c : Int) (hM : mOk (M_refused, M_now, M_kept, M_states, M_place, M_startFact, M_node, M_fact, M_ahead, M_inside, M_entries, M_caller, M_following, M_firstCaller, M_lastCaller, M_callers, M_known, M_loose, M_stack, M_high, M_pairs, M_told, M_text, M_typed, M_orders, M_written, M_look)) (h_c : rg c) : MW l g yX5_type cX5_type 2 (some .int) 1 22 [.ref (o), .int (iI (c))] (mF g o ad (M_refused) (M_now) (M_kept) (M_states) (M_place) (M_startFact) (M_node) (M_fact) (M_ahead) (M_inside) (M_entries) (M_caller) (M_following) (M_firstCaller) (M_lastCaller) (M_callers) (M_known) (M_loose) (M_stack) (M_high) (M_pairs) (M_told) (M_text) (M_typed) (M_orders) (M_written) (M_look)) (mF g o ad (m_refused ((mType c (M_refused, M_now, M_kept, M_states, M_place, M_startFact, M_node, M_fact, M_ahead, M_inside, M_entries, M_caller, M_following, M_firstCaller, M_lastCaller, M_callers, M_known, M_loose, M_stack, M_high, M_pairs, M_told, M_text, M_typed, M_orders, M_written, M_look)).2)) (m_now ((mType c (M_refused, M_now, M_kept, M_states, M_place, M_startFact, M_node, M_fact, M_ahead, M_inside, M_entries, M_caller, M_following, M_firstCaller, M_lastCaller, M_callers, M_known, M_loose, M_stack, M_high, M_pairs, M_told, M_text, M_typed, M_orders, M_written, M_look)).2)) (m_kept ((mType c (M_refused, M_now, M_kept, M_states, M_place, M_startFact, M_node, M_fact, M_ahead, M_inside, M_entries, M_caller, M_following, M_firstCaller, M_lastCaller, M_callers, M_known, M_loose, M_stack, M_high, M_pairs, M_told, M_text, M_typed, M_orders, M_written, M_look)).2)) (m_states ((mType c (M_refused, M_now, M_kept, M_states, M_place, M_startFact, M_node, M_fact, M_ahead, M_inside, M_entries, M_caller, M_following, M_firstCaller, M_lastCaller, M_callers, M_known, M_loose, M_stack, M_high, M_pairs, M_told, M_text, M_typed, M_orders, M_written, M_look)).2)) (m_place ((mType c (M_refused, M_now, M_kept, M_states, M_place, M_startFact, M_node, M_fact, M_ahead, M_inside, M_entries, M_caller, M_following, M_firstCaller, M_lastCaller, M_callers, M_known, M_loose, M_stack, M_high, M_pairs, M_told, M_text, M_typed, M_orders, M_written, M_look)).2)) (m_startFact ((mType c (M_refused, M_now, M_kept, M_states, M_place, M_startFact, M_node, M_fact, M_ahead, M_inside, M_entries, M_caller, M_following, M_firstCaller, M_lastCaller, M_callers, M_known, M_loose, M_stack, M_high, M_pairs, M_told, M_text, M_typed, M_orders, M_written, M_look)).2)) (m_node ((mType c (M_refused, M_now, M_kept, M_states, M_place, M_startFact, M_node, M_fact, M_ahead, M_inside, M_entries, M_caller, M_following, M_firstCaller, M_lastCaller, M_callers, M_known, M_loose, M_stack, M_high, M_pairs, M_told, M_text, M_typed, M_orders, M_written, M_look)).2)) (m_fact ((mType c (M_refused, M_now, M_kept, M_states, M_place, M_startFact, M_node, M_fact, M_ahead, M_inside, M_entries, M_caller, M_following, M_firstCaller, M_lastCaller, M_callers, M_known, M_loose, M_stack, M_high, M_pairs, M_told, M_text, M_typed, M_orders, M_written, M_look)).2)) (m_ahead ((mType c (M_refused, M_now, M_kept, M_states, M_place, M_startFact, M_node, M_fact, M_ahead, M_inside, M_entries, M_caller, M_following, M_firstCaller, M_lastCaller, M_callers, M_known, M_loose, M_stack, M_high, M_pairs, M_told, M_text, M_typed, M_orders, M_written, M_look)).2)) (m_inside ((mType c (M_refused, M_now, M_kept, M_states, M_place, M_startFact, M_node, M_fact, M_ahead, M_inside, M_entries, M_caller, M_following, M_firstCaller, M_lastCaller, M_callers, M_known, M_loose, M_stack, M_high, M_pairs, M_told, M_text, M_typed, M_orders, M_written, M_look)).2)) (m_entries ((mType c (M_refused, M_now, M_kept, M_states, M_place, M_startFact, M_node, M_fact, M_ahead, M_inside, M_entries, M_caller, M_following, M_firstCaller, M_lastCaller, M_callers, M_known, M_loose, M_stack, M_high, M_pairs, M_told, M_text, M_typed, M_orders, M_written, M_look)).2)) (m_caller ((mType c (M_refused, M_now, M_kept, M_states, M_place, M_startFact, M_node, M_fact, M_ahead, M_inside, M_entries, M_caller, M_following, M_firstCaller, M_lastCaller, M_callers, M_known, M_loose, M_stack, M_high, M_pairs, M_told, M_text, M_typed, M_orders, M_written, M_look)).2)) (m_following ((mType c (M_refused, M_now, M_kept, M_states, M_place, M_startFact, M_node, M_fact, M_ahead, M_inside, M_entries, M_caller, M_following, M_firstCaller, M_lastCaller, M_callers, M_known, M_loose, M_stack, M_high, M_pairs, M_told, M_text, M_typed, M_orders, M_written, M_look)).2)) (m_firstCaller ((mType c (M_refused, M_now, M_kept, M_states, M_place, M_startFact, M_node, M_fact, M_ahead, M_inside, M_entries, M_caller, M_following, M_firstCaller, M_lastCaller, M_callers, M_known, M_loose, M_stack, M_high, M_pairs, M_told, M_text, M_typed, M_orders, M_written, M_look)).2)) (m_lastCaller ((mType c (M_refused, M_now, M_kept, M_states, M_place, M_startFact, M_node, M_fact, M_ahead, M_inside, M_entries, M_caller, M_following, M_firstCaller, M_lastCaller, M_callers, M_known, M_loose, M_stack, M_high, M_pairs, M_told, M_text, M_typed, M_orders, M_written, M_look)).2)) (m_callers ((mType c (M_refused, M_now, M_kept, M_states, M_place, M_startFact, M_node, M_fact, M_ahead, M_inside, M_entries, M_caller, M_following, M_firstCaller, M_lastCaller, M_callers, M_known, M_loose, M_stack, M_high, M_pairs, M_told, M_text, M_typed, M_orders, M_written, M_look)).2)) (m_known ((mType c (M_refused, M_now, M_kept, M_states, M_place, M_startFact, M_node, M_fact, M_ahead, M_inside, M_entries, M_caller, M_following, M_firstCaller, M_lastCaller, M_callers, M_known, M_loose, M_stack, M_high, M_pairs, M_told, M_text, M_typed, M_orders, M_written, M_look)).2)) (m_loose ((mType c (M_refused, M_now, M_kept, M_states, M_place, M_startFact, M_node, M_fact, M_ahead, M_inside, M_entries, M_caller, M_following, M_firstCaller, M_lastCaller, M_callers, M_known, M_loose, M_stack, M_high, M_pairs, M_told, M_text, M_typed, M_orders, M_written, M_look)).2)) (m_stack ((mType c (M_refused, M_now, M_kept, M_states, M_place, M_startFact, M_node, M_fact, M_ahead, M_inside, M_entries, M_caller, M_following, M_firstCaller, M_lastCaller, M_callers, M_known, M_loose, M_stack, M_high, M_pairs, M_told, M_text, M_typed, M_orders, M_written, M_look)).2)) (m_high ((mType c (M_refused, M_now, M_kept, M_states, M_place, M_startFact, M_node, M_fact, M_ahead, M_inside, M_entries, M_caller, M_following, M_firstCaller, M_lastCaller, M_callers, M_known, M_loose, M_stack, M_high, M_pairs, M_told, M_text, M_typed, M_orders, M_written, M_look)).2)) (m_pairs ((mType c (M_refused, M_now, M_kept, M_states, M_place, M_startFact, M_node, M_fact, M_ahead, M_inside, M_entries, M_caller, M_following, M_firstCaller, M_lastCaller, M_callers, M_known, M_loose, M_stack, M_high, M_pairs, M_told, M_text, M_typed, M_orders, M_written, M_look)).2)) (m_told ((mType c (M_refused, M_now, M_kept, M_states, M_place, M_startFact, M_node, M_fact, M_ahead, M_inside, M_entries, M_caller, M_following, M_firstCaller, M_lastCaller, M_callers, M_known, M_loose, M_stack, M_high, M_pairs, M_told, M_text, M_typed, M_orders, M_written, M_look)).2)) (m_text ((mType c (M_refused, M_now, M_kept, M_states, M_place, M_startFact, M_node, M_fact, M_ahead, M_inside, M_entries, M_caller, M_following, M_firstCaller, M_lastCaller, M_callers, M_known, M_loose, M_stack, M_high, M_pairs, M_told, M_text, M_typed, M_orders, M_written, M_look)).2)) (m_typed ((mType c (M_refused, M_now, M_kept, M_states, M_place, M_startFact, M_node, M_fact, M_ahead, M_inside, M_entries, M_caller, M_following, M_firstCaller, M_lastCaller, M_callers, M_known, M_loose, M_stack, M_high, M_pairs, M_told, M_text, M_typed, M_orders, M_written, M_look)).2)) (m_orders ((mType c (M_refused, M_now, M_kept, M_states, M_place, M_startFact, M_node, M_fact, M_ahead, M_inside, M_entries, M_caller, M_following, M_firstCaller, M_lastCaller, M_callers, M_known, M_loose, M_stack, M_high, M_pairs, M_told, M_text, M_typed, M_orders, M_written, M_look)).2)) (m_written ((mType c (M_refused, M_now, M_kept, M_states, M_place, M_startFact, M_node, M_fact, M_ahead, M_inside, M_entries, M_caller, M_following, M_firstCaller, M_lastCaller, M_callers, M_known, M_loose, M_stack, M_high, M_pairs, M_told, M_text, M_typed, M_orders, M_written, M_look)).2)) (m_look ((mType c (M_refused, M_now, M_kept, M_states, M_place, M_startFact, M_node, M_fact, M_ahead, M_inside, M_entries, M_caller, M_following, M_firstCaller, M_lastCaller, M_callers, M_known, M_loose, M_stack, M_high, M_pairs, M_told, M_text, M_typed, M_orders, M_written, M_look)).2))) (some (.int (iI ((mType c (M_refused, M_now, M_kept, M_states, M_place, M_startFact, M_node, M_fact, M_ahead, M_inside, M_entries, M_caller, M_following, M_firstCaller, M_lastCaller, M_callers, M_known, M_loose, M_stack, M_high, M_pairs, M_told, M_text, M_typed, M_orders, M_written, M_look)).1)))) := by
  refine MW_start (by decide) (Nat.le_of_ble_eq_true rfl) ?_
  intro zp ze zs zm zb zt zc A hAe C hrt hlk hW ls hl
  have hA : ∀ q, zs.heap.size ≤ q → A q := fun q h => by rw [hAe]; exact Or.inr h
  have hl : lv_has ls 2 [(0, .ref (o)), (1, .int (iI (c)))] := hl
  have hM_refused : ∀ j : Int, 0 ≤ j → j < 3 → 0 ≤ M_refused j ∧ M_refused j ≤ 1000000 := hM.1
  have hM_states : 0 ≤ M_states ∧ M_states ≤ 5 := hM.2.1
  have hM_place : ∀ j : Int, 0 ≤ j → j < 1536 → 0 ≤ M_place j ∧ M_place j ≤ 1536 := hM.2.2.1
  have hM_startFact : ∀ j : Int, 0 ≤ j → j < 1536 → 0 ≤ M_startFact j ∧ M_startFact j ≤ 7 := hM.2.2.2.1
  have hM_node : ∀ j : Int, 0 ≤ j → j < 1536 → 0 ≤ M_node j ∧ M_node j ≤ 23 := hM.2.2.2.2.1
  have hM_fact : ∀ j : Int, 0 ≤ j → j < 1536 → 0 ≤ M_fact j ∧ M_fact j ≤ 7 := hM.2.2.2.2.2.1
  have hM_ahead : ∀ j : Int, 0 ≤ j → j < 1536 → -1 ≤ M_ahead j ∧ M_ahead j ≤ 1535 := hM.2.2.2.2.2.2.1
  have hM_inside : ∀ j : Int, 0 ≤ j → j < 1536 → -1 ≤ M_inside j ∧ M_inside j ≤ 1535 := hM.2.2.2.2.2.2.2.1
  have hM_entries : 0 ≤ M_entries ∧ M_entries ≤ 1536 := hM.2.2.2.2.2.2.2.2.1
  have hM_caller : ∀ j : Int, 0 ≤ j → j < 16384 → 0 ≤ M_caller j ∧ M_caller j ≤ 49151 := hM.2.2.2.2.2.2.2.2.2.1
  have hM_following : ∀ j : Int, 0 ≤ j → j < 16384 → -1 ≤ M_following j ∧ M_following j ≤ 16383 := hM.2.2.2.2.2.2.2.2.2.2.1
  have hM_firstCaller : ∀ j : Int, 0 ≤ j → j < 40 → -1 ≤ M_firstCaller j ∧ M_firstCaller j ≤ 16383 := hM.2.2.2.2.2.2.2.2.2.2.2.1
  have hM_lastCaller : ∀ j : Int, 0 ≤ j → j < 40 → -1 ≤ M_lastCaller j ∧ M_lastCaller j ≤ 16383 := hM.2.2.2.2.2.2.2.2.2.2.2.2.1
  have hM_callers : 0 ≤ M_callers ∧ M_callers ≤ 16384 := hM.2.2.2.2.2.2.2.2.2.2.2.2.2.1
  have hM_known : 0 ≤ M_known ∧ M_known ≤ 1 := hM.2.2.2.2.2.2.2.2.2.2.2.2.2.2.1
  have hM_loose : ∀ j : Int, 0 ≤ j → j < 24 → 0 ≤ M_loose j ∧ M_loose j ≤ 255 := hM.2.2.2.2.2.2.2.2.2.2.2.2.2.2.2.1
  have hM_stack : ∀ j : Int, 0 ≤ j → j < 8000 → 0 ≤ M_stack j ∧ M_stack j ≤ 6143 := hM.2.2.2.2.2.2.2.2.2.2.2.2.2.2.2.2.1
  have hM_high : 0 ≤ M_high ∧ M_high ≤ 8000 := hM.2.2.2.2.2.2.2.2.2.2.2.2.2.2.2.2.2.1
  have hM_pairs : ∀ j : Int, 0 ≤ j → j < 1000 → 0 ≤ M_pairs j ∧ M_pairs j ≤ 239 := hM.2.2.2.2.2.2.2.2.2.2.2.2.2.2.2.2.2.2.1
  have hM_told : 0 ≤ M_told ∧ M_told ≤ 1000 := hM.2.2.2.2.2.2.2.2.2.2.2.2.2.2.2.2.2.2.2.1
  have hM_text : ∀ j : Int, 0 ≤ j → j < 120 → 0 ≤ M_text j ∧ M_text j ≤ 127 := hM.2.2.2.2.2.2.2.2.2.2.2.2.2.2.2.2.2.2.2.2.1
  have hM_typed : 0 ≤ M_typed ∧ M_typed ≤ 120 := hM.2.2.2.2.2.2.2.2.2.2.2.2.2.2.2.2.2.2.2.2.2.1
  have hM_orders : ∀ j : Int, 0 ≤ j → j < 300 → 0 ≤ M_orders j ∧ M_orders j ≤ 999 := hM.2.2.2.2.2.2.2.2.2.2.2.2.2.2.2.2.2.2.2.2.2.2.1
  have hM_written : 0 ≤ M_written ∧ M_written ≤ 60 := hM.2.2.2.2.2.2.2.2.2.2.2.2.2.2.2.2.2.2.2.2.2.2.2.1
  have hM_look : 0 ≤ M_look ∧ M_look ≤ 120 := hM.2.2.2.2.2.2.2.2.2.2.2.2.2.2.2.2.2.2.2.2.2.2.2.2
  refine r_iload_n C dX5_type_0 hl 1 rfl ?_
  refine r_iconst (z := 0) C dX5_type_1 rfl ?_
  refine r_bipush (z := 127) C dX5_type_2 rfl ?_
  refine r_callRS (rest := []) (r := .int (iI (bI (0 ≤ c ∧ c ≤ 127)))) C hl.1 (c_X5_in l g  c 0 127 (show rg c by omega) (show rg 0 by omega) (show rg 127 by omega)) v_X5_89 rfl (fun k q h => by simp at h) (by decide) (by decide) (Nat.le_of_ble_eq_true rfl) dX5_type_4 rfl ?_
  refine r_ifb_ne C 15 dX5_type_7 (by decide) (fun hc1 => ?_) (fun hc1 => ?_)
  · skip
    refine r_aload_n C dX5_type_15 hl 0 rfl ?_
    refine r_get (v := .int (iI (M_typed))) C f_X5_218 hW.1 0 rfl rfl dX5_type_16 ?_
    refine r_bipush (z := 120) C dX5_type_19 rfl ?_
    refine r_icmp_ne C 29 dX5_type_21 (by decide) (by omega) (by omega) (fun hc2 => ?_) (fun hc2 => ?_)
    · skip
      refine r_aload_n C dX5_type_29 hl 0 rfl ?_
      refine r_get (v := .ref (ad 16)) C f_X5_58 hW.1 0 rfl rfl dX5_type_30 ?_
      refine r_aload_n C dX5_type_33 hl 0 rfl ?_
      refine r_get (v := .int (iI (M_typed))) C f_X5_218 hW.1 0 rfl rfl dX5_type_34 ?_
      refine r_iload_n C dX5_type_37 hl 1 rfl ?_
      refine r_iast (f := M_text) C hW (mF g o ad (M_refused) (M_now) (M_kept) (M_states) (M_place) (M_startFact) (M_node) (M_fact) (M_ahead) (M_inside) (M_entries) (M_caller) (M_following) (M_firstCaller) (M_lastCaller) (M_callers) (M_known) (M_loose) (M_stack) (M_high) (M_pairs) (M_told) (up (M_text) (M_typed) c) (M_typed) (M_orders) (M_written) (M_look)) 17 rfl (Nat.le_of_ble_eq_true rfl) (by omega) rfl dX5_type_38 (fun H locs hW => ?_)
      refine r_aload_n C dX5_type_39 hl 0 rfl ?_
      refine r_dup C rfl dX5_type_40 ?_
      refine r_get (v := .int (iI (M_typed))) C f_X5_218 hW.1 0 rfl rfl dX5_type_41 ?_
      refine r_iconst (z := 1) C dX5_type_44 rfl ?_
      refine r_iadd C dX5_type_45 ?_
      refine r_put C f_X5_218 fp_5_23 hW (mF g o ad (M_refused) (M_now) (M_kept) (M_states) (M_place) (M_startFact) (M_node) (M_fact) (M_ahead) (M_inside) (M_entries) (M_caller) (M_following) (M_firstCaller) (M_lastCaller) (M_callers) (M_known) (M_loose) (M_stack) (M_high) (M_pairs) (M_told) (up (M_text) (M_typed) c) ((M_typed) + 1) (M_orders) (M_written) (M_look)) 0 rfl rfl rfl (Nat.le_of_ble_eq_true rfl) rfl dX5_type_46 (fun H locs hW => ?_)
      refine r_aload_n C dX5_type_49 hl 0 rfl ?_
      refine r_get (v := .int (iI ((M_typed) + 1))) C f_X5_218 hW.1 0 rfl rfl dX5_type_50 ?_
      have hE : mType c (M_refused, M_now, M_kept, M_states, M_place, M_startFact, M_node, M_fact, M_ahead, M_inside, M_entries, M_caller, M_following, M_firstCaller, M_lastCaller, M_callers, M_known, M_loose, M_stack, M_high, M_pairs, M_told, M_text, M_typed, M_orders, M_written, M_look) = ((M_typed) + 1, (M_refused, M_now, M_kept, M_states, M_place, M_startFact, M_node, M_fact, M_ahead, M_inside, M_entries, M_caller, M_following, M_firstCaller, M_lastCaller, M_callers, M_known, M_loose, M_stack, M_high, M_pairs, M_told, up (M_text) (M_typed) c, (M_typed) + 1, M_orders, M_written, M_look)) := by unfold mType; dsimp only [m_refused, m_now, m_kept, m_states, m_place, m_startFact, m_node, m_fact, m_ahead, m_inside, m_entries, m_caller, m_following, m_firstCaller, m_lastCaller, m_callers, m_known, m_loose, m_stack, m_high, m_pairs, m_told, m_text, m_typed, m_orders, m_written, m_look]; (repeat' split) <;> first | rfl | (exfalso; omega)
      exact MW_iret C hAe hrt hlk hW dX5_type_53 (iw (by rw [hE])) (by rw [hE])
    · skip
      refine r_aload_n C dX5_type_24 hl 0 rfl ?_
      refine r_callW (rest := []) (r := some (.int (iI (-4)))) (wr := []) (ws2 := mF g o ad (up ((M_refused)) 2 ((M_refused) 2 + 1)) (M_now) (M_kept) (M_states) (M_place) (M_startFact) (M_node) (M_fact) (M_ahead) (M_inside) (M_entries) (M_caller) (M_following) (M_firstCaller) (M_lastCaller) (M_callers) (M_known) (M_loose) (M_stack) (M_high) (M_pairs) (M_told) (M_text) (M_typed) (M_orders) (M_written) (M_look)) (st1 := [.int (iI (-4))]) C hl.1 hW hA (c_X5_full l g o ad (M_refused) (M_now) (M_kept) (M_states) (M_place) (M_startFact) (M_node) (M_fact) (M_ahead) (M_inside) (M_entries) (M_caller) (M_following) (M_firstCaller) (M_lastCaller) (M_callers) (M_known) (M_loose) (M_stack) (M_high) (M_pairs) (M_told) (M_text) (M_typed) (M_orders) (M_written) (M_look)) v_X5_74 rfl [0, 1, 2, 3, 4, 5, 6, 7, 8, 9, 10, 11, 12, 13, 14, 15, 16, 17, 18] [] [0, 1, 2, 3, 4, 5, 6, 7, 8, 9, 10, 11, 12, 13, 14, 15, 16, 17, 18] rfl rfl (by decide) (by decide) rfl rfl 0 rfl rfl rfl (by decide) (by decide) (Nat.le_of_ble_eq_true rfl) dX5_type_25 rfl rfl (fun H locs hW => ?_)
      have hE : mType c (M_refused, M_now, M_kept, M_states, M_place, M_startFact, M_node, M_fact, M_ahead, M_inside, M_entries, M_caller, M_following, M_firstCaller, M_lastCaller, M_callers, M_known, M_loose, M_stack, M_high, M_pairs, M_told, M_text, M_typed, M_orders, M_written, M_look) = (-4, (up ((M_refused)) 2 ((M_refused) 2 + 1), M_now, M_kept, M_states, M_place, M_startFact, M_node, M_fact, M_ahead, M_inside, M_entries, M_caller, M_following, M_firstCaller, M_lastCaller, M_callers, M_known, M_loose, M_stack, M_high, M_pairs, M_told, M_text, M_typed, M_orders, M_written, M_look)) := by unfold mType; dsimp only [m_refused, m_now, m_kept, m_states, m_place, m_startFact, m_node, m_fact, m_ahead, m_inside, m_entries, m_caller, m_following, m_firstCaller, m_lastCaller, m_callers, m_known, m_loose, m_stack, m_high, m_pairs, m_told, m_text, m_typed, m_orders, m_written, m_look]; (repeat' split) <;> first | rfl | (exfalso; omega)
      exact MW_iret C hAe hrt hlk hW dX5_type_28 (iw (by rw [hE])) (by rw [hE])
  · skip
    refine r_aload_n C dX5_type_10 hl 0 rfl ?_
    refine r_callW (rest := []) (r := some (.int (iI (-2)))) (wr := []) (ws2 := mF g o ad (up ((M_refused)) 0 ((M_refused) 0 + 1)) (M_now) (M_kept) (M_states) (M_place) (M_startFact) (M_node) (M_fact) (M_ahead) (M_inside) (M_entries) (M_caller) (M_following) (M_firstCaller) (M_lastCaller) (M_callers) (M_known) (M_loose) (M_stack) (M_high) (M_pairs) (M_told) (M_text) (M_typed) (M_orders) (M_written) (M_look)) (st1 := [.int (iI (-2))]) C hl.1 hW hA (c_X5_bad l g o ad (M_refused) (M_now) (M_kept) (M_states) (M_place) (M_startFact) (M_node) (M_fact) (M_ahead) (M_inside) (M_entries) (M_caller) (M_following) (M_firstCaller) (M_lastCaller) (M_callers) (M_known) (M_loose) (M_stack) (M_high) (M_pairs) (M_told) (M_text) (M_typed) (M_orders) (M_written) (M_look)) v_X5_68 rfl [0, 1, 2, 3, 4, 5, 6, 7, 8, 9, 10, 11, 12, 13, 14, 15, 16, 17, 18] [] [0, 1, 2, 3, 4, 5, 6, 7, 8, 9, 10, 11, 12, 13, 14, 15, 16, 17, 18] rfl rfl (by decide) (by decide) rfl rfl 0 rfl rfl rfl (by decide) (by decide) (Nat.le_of_ble_eq_true rfl) dX5_type_11 rfl rfl (fun H locs hW => ?_)
    have hE : mType c (M_refused, M_now, M_kept, M_states, M_place, M_startFact, M_node, M_fact, M_ahead, M_inside, M_entries, M_caller, M_following, M_firstCaller, M_lastCaller, M_callers, M_known, M_loose, M_stack, M_high, M_pairs, M_told, M_text, M_typed, M_orders, M_written, M_look) = (-2, (up ((M_refused)) 0 ((M_refused) 0 + 1), M_now, M_kept, M_states, M_place, M_startFact, M_node, M_fact, M_ahead, M_inside, M_entries, M_caller, M_following, M_firstCaller, M_lastCaller, M_callers, M_known, M_loose, M_stack, M_high, M_pairs, M_told, M_text, M_typed, M_orders, M_written, M_look)) := by unfold mType; dsimp only [m_refused, m_now, m_kept, m_states, m_place, m_startFact, m_node, m_fact, m_ahead, m_inside, m_entries, m_caller, m_following, m_firstCaller, m_lastCaller, m_callers, m_known, m_loose, m_stack, m_high, m_pairs, m_told, m_text, m_typed, m_orders, m_written, m_look]; (repeat' split) <;> first | rfl | (exfalso; omega)
    exact MW_iret C hAe hrt hlk hW dX5_type_14 (iw (by rw [hE])) (by rw [hE])
set_option maxHeartbeats 4000000 in
set_option maxRecDepth 100000 in
theorem c_X5_clear (l : Launch) (g : GG) (o : Nat) (ad : Nat → Nat) (M_refused : (Int → Int)) (M_now : (Int → Int)) (M_kept : (Int → Int)) (M_states : Int) (M_place : (Int → Int)) (M_startFact : (Int → Int)) (M_node : (Int → Int)) (M_fact : (Int → Int)) (M_ahead : (Int → Int)) (M_inside : (Int → Int)) (M_entries : Int) (M_caller : (Int → Int)) (M_following : (Int → Int)) (M_firstCaller : (Int → Int)) (M_lastCaller : (Int → Int)) (M_callers : Int) (M_known : Int) (M_loose : (Int → Int)) (M_stack : (Int → Int)) (M_high : Int) (M_pairs : (Int → Int)) (M_told : Int) (M_text : (Int → Int)) (M_typed : Int) (M_orders : (Int → Int)) (M_written : Int) (M_look : Int) : MW l g yX5_clear cX5_clear 2 (some .int) 0 0 [.ref (o)] (mF g o ad (M_refused) (M_now) (M_kept) (M_states) (M_place) (M_startFact) (M_node) (M_fact) (M_ahead) (M_inside) (M_entries) (M_caller) (M_following) (M_firstCaller) (M_lastCaller) (M_callers) (M_known) (M_loose) (M_stack) (M_high) (M_pairs) (M_told) (M_text) (M_typed) (M_orders) (M_written) (M_look)) (mF g o ad (M_refused) (M_now) (M_kept) (M_states) (M_place) (M_startFact) (M_node) (M_fact) (M_ahead) (M_inside) (M_entries) (M_caller) (M_following) (M_firstCaller) (M_lastCaller) (M_callers) (M_known) (M_loose) (M_stack) (M_high) (M_pairs) (M_told) (M_text) 0 (M_orders) (M_written) (M_look)) (some (.int (iI (M_typed)))) := by
  refine MW_start (by decide) (Nat.le_of_ble_eq_true rfl) ?_
  intro zp ze zs zm zb zt zc A hAe C hrt hlk hW ls hl
  have hA : ∀ q, zs.heap.size ≤ q → A q := fun q h => by rw [hAe]; exact Or.inr h
  have hl : lv_has ls 2 [(0, .ref (o))] := hl
  refine r_aload_n C dX5_clear_0 hl 0 rfl ?_
  refine r_get (v := .int (iI (M_typed))) C f_X5_218 hW.1 0 rfl rfl dX5_clear_1 ?_
  refine r_istore_n C [(1, .int (iI (M_typed))), (0, .ref (o))] dX5_clear_4 hl (by decide) rfl (fun ls hl => ?_)
  refine r_aload_n C dX5_clear_5 hl 1 rfl ?_
  refine r_iconst (z := 0) C dX5_clear_6 rfl ?_
  refine r_put C f_X5_218 fp_5_23 hW (mF g o ad (M_refused) (M_now) (M_kept) (M_states) (M_place) (M_startFact) (M_node) (M_fact) (M_ahead) (M_inside) (M_entries) (M_caller) (M_following) (M_firstCaller) (M_lastCaller) (M_callers) (M_known) (M_loose) (M_stack) (M_high) (M_pairs) (M_told) (M_text) 0 (M_orders) (M_written) (M_look)) 0 rfl rfl rfl (Nat.le_of_ble_eq_true rfl) rfl dX5_clear_7 (fun H locs hW => ?_)
  refine r_iload_n C dX5_clear_10 hl 0 rfl ?_
  exact MW_iret C hAe hrt hlk hW dX5_clear_11 (iw rfl) rfl
set_option maxHeartbeats 4000000 in
set_option maxRecDepth 100000 in
theorem c_X5_held (l : Launch) (g : GG) (o : Nat) (ad : Nat → Nat) (M_refused : (Int → Int)) (M_now : (Int → Int)) (M_kept : (Int → Int)) (M_states : Int) (M_place : (Int → Int)) (M_startFact : (Int → Int)) (M_node : (Int → Int)) (M_fact : (Int → Int)) (M_ahead : (Int → Int)) (M_inside : (Int → Int)) (M_entries : Int) (M_caller : (Int → Int)) (M_following : (Int → Int)) (M_firstCaller : (Int → Int)) (M_lastCaller : (Int → Int)) (M_callers : Int) (M_known : Int) (M_loose : (Int → Int)) (M_stack : (Int → Int)) (M_high : Int) (M_pairs : (Int → Int)) (M_told : Int) (M_text : (Int → Int)) (M_typed : Int) (M_orders : (Int → Int)) (M_written : Int) (M_look : Int) (n : Int) (hM : mOk (M_refused, M_now, M_kept, M_states, M_place, M_startFact, M_node, M_fact, M_ahead, M_inside, M_entries, M_caller, M_following, M_firstCaller, M_lastCaller, M_callers, M_known, M_loose, M_stack, M_high, M_pairs, M_told, M_text, M_typed, M_orders, M_written, M_look)) (hn : 0 ≤ n ∧ n < 24) : MR l g yX5_held cX5_held 5 (some .int) 1 22 [.ref (o), .int (iI (n))] (mF g o ad (M_refused) (M_now) (M_kept) (M_states) (M_place) (M_startFact) (M_node) (M_fact) (M_ahead) (M_inside) (M_entries) (M_caller) (M_following) (M_firstCaller) (M_lastCaller) (M_callers) (M_known) (M_loose) (M_stack) (M_high) (M_pairs) (M_told) (M_text) (M_typed) (M_orders) (M_written) (M_look)) (.int (iI (hHeld (M_place) n))) := by
  refine MR_start (by decide) (Nat.le_of_ble_eq_true rfl) ?_
  intro zp ze zs zm zb zt zc C hrt hlk hH ls hl
  have hl : lv_has ls 5 [(0, .ref (o)), (1, .int (iI (n)))] := hl
  have hM_refused : ∀ j : Int, 0 ≤ j → j < 3 → 0 ≤ M_refused j ∧ M_refused j ≤ 1000000 := hM.1
  have hM_states : 0 ≤ M_states ∧ M_states ≤ 5 := hM.2.1
  have hM_place : ∀ j : Int, 0 ≤ j → j < 1536 → 0 ≤ M_place j ∧ M_place j ≤ 1536 := hM.2.2.1
  have hM_startFact : ∀ j : Int, 0 ≤ j → j < 1536 → 0 ≤ M_startFact j ∧ M_startFact j ≤ 7 := hM.2.2.2.1
  have hM_node : ∀ j : Int, 0 ≤ j → j < 1536 → 0 ≤ M_node j ∧ M_node j ≤ 23 := hM.2.2.2.2.1
  have hM_fact : ∀ j : Int, 0 ≤ j → j < 1536 → 0 ≤ M_fact j ∧ M_fact j ≤ 7 := hM.2.2.2.2.2.1
  have hM_ahead : ∀ j : Int, 0 ≤ j → j < 1536 → -1 ≤ M_ahead j ∧ M_ahead j ≤ 1535 := hM.2.2.2.2.2.2.1
  have hM_inside : ∀ j : Int, 0 ≤ j → j < 1536 → -1 ≤ M_inside j ∧ M_inside j ≤ 1535 := hM.2.2.2.2.2.2.2.1
  have hM_entries : 0 ≤ M_entries ∧ M_entries ≤ 1536 := hM.2.2.2.2.2.2.2.2.1
  have hM_caller : ∀ j : Int, 0 ≤ j → j < 16384 → 0 ≤ M_caller j ∧ M_caller j ≤ 49151 := hM.2.2.2.2.2.2.2.2.2.1
  have hM_following : ∀ j : Int, 0 ≤ j → j < 16384 → -1 ≤ M_following j ∧ M_following j ≤ 16383 := hM.2.2.2.2.2.2.2.2.2.2.1
  have hM_firstCaller : ∀ j : Int, 0 ≤ j → j < 40 → -1 ≤ M_firstCaller j ∧ M_firstCaller j ≤ 16383 := hM.2.2.2.2.2.2.2.2.2.2.2.1
  have hM_lastCaller : ∀ j : Int, 0 ≤ j → j < 40 → -1 ≤ M_lastCaller j ∧ M_lastCaller j ≤ 16383 := hM.2.2.2.2.2.2.2.2.2.2.2.2.1
  have hM_callers : 0 ≤ M_callers ∧ M_callers ≤ 16384 := hM.2.2.2.2.2.2.2.2.2.2.2.2.2.1
  have hM_known : 0 ≤ M_known ∧ M_known ≤ 1 := hM.2.2.2.2.2.2.2.2.2.2.2.2.2.2.1
  have hM_loose : ∀ j : Int, 0 ≤ j → j < 24 → 0 ≤ M_loose j ∧ M_loose j ≤ 255 := hM.2.2.2.2.2.2.2.2.2.2.2.2.2.2.2.1
  have hM_stack : ∀ j : Int, 0 ≤ j → j < 8000 → 0 ≤ M_stack j ∧ M_stack j ≤ 6143 := hM.2.2.2.2.2.2.2.2.2.2.2.2.2.2.2.2.1
  have hM_high : 0 ≤ M_high ∧ M_high ≤ 8000 := hM.2.2.2.2.2.2.2.2.2.2.2.2.2.2.2.2.2.1
  have hM_pairs : ∀ j : Int, 0 ≤ j → j < 1000 → 0 ≤ M_pairs j ∧ M_pairs j ≤ 239 := hM.2.2.2.2.2.2.2.2.2.2.2.2.2.2.2.2.2.2.1
  have hM_told : 0 ≤ M_told ∧ M_told ≤ 1000 := hM.2.2.2.2.2.2.2.2.2.2.2.2.2.2.2.2.2.2.2.1
  have hM_text : ∀ j : Int, 0 ≤ j → j < 120 → 0 ≤ M_text j ∧ M_text j ≤ 127 := hM.2.2.2.2.2.2.2.2.2.2.2.2.2.2.2.2.2.2.2.2.1
  have hM_typed : 0 ≤ M_typed ∧ M_typed ≤ 120 := hM.2.2.2.2.2.2.2.2.2.2.2.2.2.2.2.2.2.2.2.2.2.1
  have hM_orders : ∀ j : Int, 0 ≤ j → j < 300 → 0 ≤ M_orders j ∧ M_orders j ≤ 999 := hM.2.2.2.2.2.2.2.2.2.2.2.2.2.2.2.2.2.2.2.2.2.2.1
  have hM_written : 0 ≤ M_written ∧ M_written ≤ 60 := hM.2.2.2.2.2.2.2.2.2.2.2.2.2.2.2.2.2.2.2.2.2.2.2.1
  have hM_look : 0 ≤ M_look ∧ M_look ≤ 120 := hM.2.2.2.2.2.2.2.2.2.2.2.2.2.2.2.2.2.2.2.2.2.2.2.2
  refine r_iconst (z := 0) C dX5_held_0 rfl ?_
  refine r_istore_n C [(2, .int (iI (0))), (0, .ref (o)), (1, .int (iI (n)))] dX5_held_1 hl (by decide) rfl (fun ls hl => ?_)
  refine r_iconst (z := 0) C dX5_held_2 rfl ?_
  refine r_istore_n C [(3, .int (iI (0))), (2, .int (iI (0))), (0, .ref (o)), (1, .int (iI (n)))] dX5_held_3 hl (by decide) rfl (fun ls hl => ?_)
  have hloop4 : ∀ (k4 : Nat) (a r : Int) (hkk : a + k4 = 8) (ha : 0 ≤ a) (hr9 : 0 ≤ r ∧ r < 256) (hq : hHeld (M_place) n = it (fun a r => it (fun b r => bO r (if 0 < M_place ((8 * n + a) * 8 + b) then p2 b else 0)) 8 0 r) k4 a r) (ls : Array Slot), lv_has ls 5 [(0, .ref (o)), (1, .int (iI (n))), (2, .int (iI (r))), (3, .int (iI (a)))] → W zp l ze (rmm 1 22) zs zm (List.toArray [.ref (o), .int (iI (n))]) zb zt zc zs.heap [] 0 0 (MQ zb (QR (.int (iI (hHeld (M_place) n)))) (List.toArray [.ref (o), .int (iI (n))]) zs 0 0 (fun _ => False)) (F0 zm 4 ls []) := by
    intro k4
    induction k4 with
    | zero =>
      intro a r hkk ha hr9 hq ls hl
      refine r_iload_n C dX5_held_4 hl 3 rfl ?_
      refine r_bipush (z := 8) C dX5_held_5 rfl ?_
      refine r_icmp_ge C 58 dX5_held_7 (by decide) (by omega) (by omega) (fun hc1 => ?_) (fun hc1 => ?_)
      · skip
        refine r_iload_n C dX5_held_58 hl 2 rfl ?_
        exact MR_iret C hrt hlk dX5_held_59 (iv (by rw [hq]; rfl))
      · exact absurd hc1 (by omega)
    | succ k4 ih4 =>
      intro a r hkk ha hr9 hq ls hl
      refine r_iload_n C dX5_held_4 hl 3 rfl ?_
      refine r_bipush (z := 8) C dX5_held_5 rfl ?_
      refine r_icmp_ge C 58 dX5_held_7 (by decide) (by omega) (by omega) (fun hc2 => ?_) (fun hc2 => ?_)
      · exact absurd hc2 (by omega)
      · skip
        refine r_iconst (z := 0) C dX5_held_10 rfl ?_
        refine r_istore C [(4, .int (iI (0))), (0, .ref (o)), (1, .int (iI (n))), (2, .int (iI (r))), (3, .int (iI (a)))] dX5_held_11 hl (by decide) rfl (fun ls hl => ?_)
        have hloop13 : ∀ (k13 : Nat) (b s : Int) (hkk2 : b + k13 = 8) (hb : 0 ≤ b) (hs9 : 0 ≤ s ∧ s < 256) (hq2 : it (fun b r => bO r (if 0 < M_place ((8 * n + a) * 8 + b) then p2 b else 0)) 8 0 r = it (fun b r => bO r (if 0 < M_place ((8 * n + a) * 8 + b) then p2 b else 0)) k13 b s) (ls : Array Slot), lv_has ls 5 [(0, .ref (o)), (1, .int (iI (n))), (2, .int (iI (s))), (3, .int (iI (a))), (4, .int (iI (b)))] → W zp l ze (rmm 1 22) zs zm (List.toArray [.ref (o), .int (iI (n))]) zb zt zc zs.heap [] 0 0 (MQ zb (QR (.int (iI (hHeld (M_place) n)))) (List.toArray [.ref (o), .int (iI (n))]) zs 0 0 (fun _ => False)) (F0 zm 13 ls []) := by
          intro k13
          induction k13 with
          | zero =>
            intro b s hkk2 hb hs9 hq2 ls hl
            refine r_iload C dX5_held_13 hl 4 rfl ?_
            refine r_bipush (z := 8) C dX5_held_15 rfl ?_
            refine r_icmp_ge C 52 dX5_held_17 (by decide) (by omega) (by omega) (fun hc3 => ?_) (fun hc3 => ?_)
            · skip
              refine r_iinc (v := a + 1) C [(3, .int (iI (a + 1))), (0, .ref (o)), (1, .int (iI (n))), (2, .int (iI (s))), (4, .int (iI (b)))] dX5_held_52 hl 3 rfl (by decide) (by omega) rfl (fun ls hl => ?_)
              refine r_goto C 4 dX5_held_55 (by decide) ?_
              exact ih4 (a + 1) s (by omega) (by omega) (by omega) (by rw [hq, it_s, hq2]; rfl) ls (lv_sub hl [1, 2, 3, 0] rfl)
            · exact absurd hc3 (by omega)
          | succ k13 ih13 =>
            intro b s hkk2 hb hs9 hq2 ls hl
            refine r_iload C dX5_held_13 hl 4 rfl ?_
            refine r_bipush (z := 8) C dX5_held_15 rfl ?_
            refine r_icmp_ge C 52 dX5_held_17 (by decide) (by omega) (by omega) (fun hc4 => ?_) (fun hc4 => ?_)
            · exact absurd hc4 (by omega)
            · skip
              refine r_iload_n C dX5_held_20 hl 2 rfl ?_
              refine r_aload_n C dX5_held_21 hl 0 rfl ?_
              refine r_get (v := .ref (ad 3)) C f_X5_19 hH 0 rfl rfl dX5_held_22 ?_
              refine r_iload_n C dX5_held_25 hl 3 rfl ?_
              refine r_iload_n C dX5_held_26 hl 1 rfl ?_
              refine r_iload C dX5_held_27 hl 4 rfl ?_
              refine r_callRS (rest := [.ref (ad 3), .int (iI (s))]) (r := .int (iI ((8 * n + a) * 8 + b))) C hl.1 (c_X5_key l g  a n b) v_X5_161 rfl (fun k q h => by simp at h) (by decide) (by decide) (Nat.le_of_ble_eq_true rfl) dX5_held_29 rfl ?_
              refine r_iald (f := M_place) C hH 4 rfl (Nat.le_of_ble_eq_true rfl) (by omega) dX5_held_32 ?_
              have hr5 := hM_place ((8 * n + a) * 8 + b) (by omega) (by omega)
              refine r_if_le C 43 dX5_held_33 (by decide) (by omega) (fun hc6 => ?_) (fun hc6 => ?_)
              · skip
                refine r_iconst (z := 0) C dX5_held_43 rfl ?_
                refine r_ior C (by omega) (by omega) dX5_held_44 ?_
                have hb7 := bO_0 s 0
                have hb8 : bO s 0 < 256 := bO_8 (by omega) (by omega)
                refine r_istore_n C [(2, .int (iI (bO s 0))), (0, .ref (o)), (1, .int (iI (n))), (3, .int (iI (a))), (4, .int (iI (b)))] dX5_held_45 hl (by decide) rfl (fun ls hl => ?_)
                refine r_iinc (v := b + 1) C [(4, .int (iI (b + 1))), (2, .int (iI (bO s 0))), (0, .ref (o)), (1, .int (iI (n))), (3, .int (iI (a)))] dX5_held_46 hl 4 rfl (by decide) (by omega) rfl (fun ls hl => ?_)
                refine r_goto C 13 dX5_held_49 (by decide) ?_
                exact ih13 _ _ (by omega) (by omega) (by omega) (by rw [hq2, it_s, if_neg (by omega)]) ls (lv_sub hl [2, 3, 1, 4, 0] rfl)
              · skip
                refine r_iconst (z := 1) C dX5_held_36 rfl ?_
                refine r_iload C dX5_held_37 hl 4 rfl ?_
                refine r_ishl1 C (by omega) (by omega) dX5_held_39 ?_
                have hb9 := p2_0 b
                have hb10 : p2 b < 256 := p2_8 (by omega)
                refine r_goto C 44 dX5_held_40 (by decide) ?_
                refine r_ior C (by omega) (by omega) dX5_held_44 ?_
                have hb11 := bO_0 s (p2 b)
                have hb12 : bO s (p2 b) < 256 := bO_8 (by omega) (by omega)
                refine r_istore_n C [(2, .int (iI (bO s (p2 b)))), (0, .ref (o)), (1, .int (iI (n))), (3, .int (iI (a))), (4, .int (iI (b)))] dX5_held_45 hl (by decide) rfl (fun ls hl => ?_)
                refine r_iinc (v := b + 1) C [(4, .int (iI (b + 1))), (2, .int (iI (bO s (p2 b)))), (0, .ref (o)), (1, .int (iI (n))), (3, .int (iI (a)))] dX5_held_46 hl 4 rfl (by decide) (by omega) rfl (fun ls hl => ?_)
                refine r_goto C 13 dX5_held_49 (by decide) ?_
                exact ih13 _ _ (by omega) (by omega) (by omega) (by rw [hq2, it_s, if_pos (by omega)]) ls (lv_sub hl [2, 3, 1, 4, 0] rfl)
        exact hloop13 8 0 r (by omega) (by omega) (by omega) rfl ls (lv_sub hl [1, 2, 3, 4, 0] rfl)
  exact hloop4 8 0 0 (by omega) (by omega) (by omega) rfl ls (lv_sub hl [2, 3, 1, 0] rfl)
set_option maxHeartbeats 4000000 in
set_option maxRecDepth 100000 in
theorem c_X5_carried (l : Launch) (g : GG) (o : Nat) (ad : Nat → Nat) (M_refused : (Int → Int)) (M_now : (Int → Int)) (M_kept : (Int → Int)) (M_states : Int) (M_place : (Int → Int)) (M_startFact : (Int → Int)) (M_node : (Int → Int)) (M_fact : (Int → Int)) (M_ahead : (Int → Int)) (M_inside : (Int → Int)) (M_entries : Int) (M_caller : (Int → Int)) (M_following : (Int → Int)) (M_firstCaller : (Int → Int)) (M_lastCaller : (Int → Int)) (M_callers : Int) (M_known : Int) (M_loose : (Int → Int)) (M_stack : (Int → Int)) (M_high : Int) (M_pairs : (Int → Int)) (M_told : Int) (M_text : (Int → Int)) (M_typed : Int) (M_orders : (Int → Int)) (M_written : Int) (M_look : Int) (e w x : Int) (hN : nOk (M_now)) (he : 0 ≤ e ∧ e < 32) (hw : 0 ≤ w ∧ w < 3) (hx : 0 ≤ x ∧ x < 256) : MR l g yX5_carried cX5_carried 6 (some .int) 1 23 [.ref (o), .int (iI (e)), .int (iI (w)), .int (iI (x))] (mF g o ad (M_refused) (M_now) (M_kept) (M_states) (M_place) (M_startFact) (M_node) (M_fact) (M_ahead) (M_inside) (M_entries) (M_caller) (M_following) (M_firstCaller) (M_lastCaller) (M_callers) (M_known) (M_loose) (M_stack) (M_high) (M_pairs) (M_told) (M_text) (M_typed) (M_orders) (M_written) (M_look)) (.int (iI (nCarry (M_now) e w x))) := by
  refine MR_start (by decide) (Nat.le_of_ble_eq_true rfl) ?_
  intro zp ze zs zm zb zt zc C hrt hlk hH ls hl
  have hl : lv_has ls 6 [(0, .ref (o)), (1, .int (iI (e))), (2, .int (iI (w))), (3, .int (iI (x)))] := hl
  have hN_0 := hN.1
  have hN_1 := hN.2.1
  have hN_2 := hN.2.2.1
  have hN_3 := hN.2.2.2.1
  refine r_iconst (z := 0) C dX5_carried_0 rfl ?_
  refine r_istore C [(4, .int (iI (0))), (0, .ref (o)), (1, .int (iI (e))), (2, .int (iI (w))), (3, .int (iI (x)))] dX5_carried_1 hl (by decide) rfl (fun ls hl => ?_)
  refine r_iconst (z := 0) C dX5_carried_3 rfl ?_
  refine r_istore C [(5, .int (iI (0))), (4, .int (iI (0))), (0, .ref (o)), (1, .int (iI (e))), (2, .int (iI (w))), (3, .int (iI (x)))] dX5_carried_4 hl (by decide) rfl (fun ls hl => ?_)
  have hloop6 : ∀ (k6 : Nat) (a r : Int) (hkk : a + k6 = 8) (ha : 0 ≤ a) (hr9 : 0 ≤ r ∧ r < 256) (hq : nCarry (M_now) e w x = it (fun a r => bO r (if bA (x / p2 a) 1 = 1 then M_now (62 + 27 * e + 3 + 8 * w + a) else 0)) k6 a r) (ls : Array Slot), lv_has ls 6 [(0, .ref (o)), (1, .int (iI (e))), (2, .int (iI (w))), (3, .int (iI (x))), (4, .int (iI (r))), (5, .int (iI (a)))] → W zp l ze (rmm 1 23) zs zm (List.toArray [.ref (o), .int (iI (e)), .int (iI (w)), .int (iI (x))]) zb zt zc zs.heap [] 0 0 (MQ zb (QR (.int (iI (nCarry (M_now) e w x)))) (List.toArray [.ref (o), .int (iI (e)), .int (iI (w)), .int (iI (x))]) zs 0 0 (fun _ => False)) (F0 zm 6 ls []) := by
    intro k6
    induction k6 with
    | zero =>
      intro a r hkk ha hr9 hq ls hl
      refine r_iload C dX5_carried_6 hl 5 rfl ?_
      refine r_bipush (z := 8) C dX5_carried_8 rfl ?_
      refine r_icmp_ge C 46 dX5_carried_10 (by decide) (by omega) (by omega) (fun hc1 => ?_) (fun hc1 => ?_)
      · skip
        refine r_iload C dX5_carried_46 hl 4 rfl ?_
        exact MR_iret C hrt hlk dX5_carried_48 (iv (by rw [hq]; rfl))
      · exact absurd hc1 (by omega)
    | succ k6 ih6 =>
      intro a r hkk ha hr9 hq ls hl
      refine r_iload C dX5_carried_6 hl 5 rfl ?_
      refine r_bipush (z := 8) C dX5_carried_8 rfl ?_
      refine r_icmp_ge C 46 dX5_carried_10 (by decide) (by omega) (by omega) (fun hc2 => ?_) (fun hc2 => ?_)
      · exact absurd hc2 (by omega)
      · skip
        refine r_iload C dX5_carried_13 hl 4 rfl ?_
        refine r_iload_n C dX5_carried_15 hl 3 rfl ?_
        refine r_iload C dX5_carried_16 hl 5 rfl ?_
        refine r_ishr C (by omega) (by omega) (by omega) (by omega) dX5_carried_18 ?_
        have hb3 : 0 ≤ x / p2 a := Int.ediv_nonneg (by omega) (Int.le_of_lt (p2_0 _))
        refine r_iconst (z := 1) C dX5_carried_19 rfl ?_
        refine r_iand C (by omega) (by omega) dX5_carried_20 ?_
        have hb4 := bA_0 (x / p2 a) 1
        have hb6 := Nat.and_le_right (n := (x / p2 a).toNat) (m := (1 : Int).toNat); have hb5 : bA (x / p2 a) 1 ≤ 1 := by unfold bA; omega
        refine r_iconst (z := 1) C dX5_carried_21 rfl ?_
        refine r_icmp_ne C 36 dX5_carried_22 (by decide) (by omega) (by omega) (fun hc7 => ?_) (fun hc7 => ?_)
        · skip
          refine r_iconst (z := 0) C dX5_carried_36 rfl ?_
          refine r_ior C (by omega) (by omega) dX5_carried_37 ?_
          have hb8 := bO_0 r 0
          have hb9 : bO r 0 < 256 := bO_8 (by omega) (by omega)
          refine r_istore C [(4, .int (iI (bO r 0))), (0, .ref (o)), (1, .int (iI (e))), (2, .int (iI (w))), (3, .int (iI (x))), (5, .int (iI (a)))] dX5_carried_38 hl (by decide) rfl (fun ls hl => ?_)
          refine r_iinc (v := a + 1) C [(5, .int (iI (a + 1))), (4, .int (iI (bO r 0))), (0, .ref (o)), (1, .int (iI (e))), (2, .int (iI (w))), (3, .int (iI (x)))] dX5_carried_40 hl 5 rfl (by decide) (by omega) rfl (fun ls hl => ?_)
          refine r_goto C 6 dX5_carried_43 (by decide) ?_
          exact ih6 _ _ (by omega) (by omega) (by omega) (by rw [hq, it_s, if_neg hc7]) ls (lv_sub hl [2, 3, 4, 5, 1, 0] rfl)
        · skip
          refine r_aload_n C dX5_carried_25 hl 0 rfl ?_
          refine r_iload_n C dX5_carried_26 hl 1 rfl ?_
          refine r_iload_n C dX5_carried_27 hl 2 rfl ?_
          refine r_iload C dX5_carried_28 hl 5 rfl ?_
          refine r_callR (rest := [.int (iI (r))]) (r := .int (iI ((M_now) (62 + 27 * e + 3 + 8 * w + a)))) C hl.1 (c_X5_flowOf l g o ad (M_refused) (M_now) (M_kept) (M_states) (M_place) (M_startFact) (M_node) (M_fact) (M_ahead) (M_inside) (M_entries) (M_caller) (M_following) (M_firstCaller) (M_lastCaller) (M_callers) (M_known) (M_loose) (M_stack) (M_high) (M_pairs) (M_told) (M_text) (M_typed) (M_orders) (M_written) (M_look) e w a (by assumption) (show 0 ≤ e ∧ e < 32 by omega) (show 0 ≤ w ∧ w < 3 by omega) (show 0 ≤ a ∧ a < 8 by omega)) v_X5_124 rfl hH 0 rfl rfl rfl (by decide) (by decide) (Nat.le_of_ble_eq_true rfl) dX5_carried_30 rfl ?_
          have hq10 := nFlow_q ((M_now)) e w a (by assumption) (by omega) (by omega) (by omega)
          refine r_goto C 37 dX5_carried_33 (by decide) ?_
          refine r_ior C (by omega) (by omega) dX5_carried_37 ?_
          have hb11 := bO_0 r ((M_now) (62 + 27 * e + 3 + 8 * w + a))
          have hb12 : bO r ((M_now) (62 + 27 * e + 3 + 8 * w + a)) < 256 := bO_8 (by omega) (by omega)
          refine r_istore C [(4, .int (iI (bO r ((M_now) (62 + 27 * e + 3 + 8 * w + a))))), (0, .ref (o)), (1, .int (iI (e))), (2, .int (iI (w))), (3, .int (iI (x))), (5, .int (iI (a)))] dX5_carried_38 hl (by decide) rfl (fun ls hl => ?_)
          refine r_iinc (v := a + 1) C [(5, .int (iI (a + 1))), (4, .int (iI (bO r ((M_now) (62 + 27 * e + 3 + 8 * w + a))))), (0, .ref (o)), (1, .int (iI (e))), (2, .int (iI (w))), (3, .int (iI (x)))] dX5_carried_40 hl 5 rfl (by decide) (by omega) rfl (fun ls hl => ?_)
          refine r_goto C 6 dX5_carried_43 (by decide) ?_
          exact ih6 _ _ (by omega) (by omega) (by omega) (by rw [hq, it_s, if_pos hc7]) ls (lv_sub hl [2, 3, 4, 5, 1, 0] rfl)
  exact hloop6 8 0 0 (by omega) (by omega) (by omega) rfl ls (lv_sub hl [2, 3, 4, 5, 1, 0] rfl)

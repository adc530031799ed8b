set_option maxHeartbeats 4000000 in
set_option maxRecDepth 100000 in
theorem c_X5_bad (l : Launch) (g : GG) (o : Nat) (ad : Nat → Nat) (M_refused : (Int → Int)) (M_now : (Int → Int)) (M_kept : (Int → Int)) (M_states : Int) (M_place : (Int → Int)) (M_startFact : (Int → Int)) (M_node : (Int → Int)) (M_fact : (Int → Int)) (M_ahead : (Int → Int)) (M_inside : (Int → Int)) (M_entries : Int) (M_caller : (Int → Int)) (M_following : (Int → Int)) (M_firstCaller : (Int → Int)) (M_lastCaller : (Int → Int)) (M_callers : Int) (M_known : Int) (M_loose : (Int → Int)) (M_stack : (Int → Int)) (M_high : Int) (M_pairs : (Int → Int)) (M_told : Int) (M_text : (Int → Int)) (M_typed : Int) (M_orders : (Int → Int)) (M_written : Int) (M_look : Int) : MW l g yX5_bad cX5_bad 1 (some .int) 0 0 [.ref (o)] (mF g o ad (M_refused) (M_now) (M_kept) (M_states) (M_place) (M_startFact) (M_node) (M_fact) (M_ahead) (M_inside) (M_entries) (M_caller) (M_following) (M_firstCaller) (M_lastCaller) (M_callers) (M_known) (M_loose) (M_stack) (M_high) (M_pairs) (M_told) (M_text) (M_typed) (M_orders) (M_written) (M_look)) (mF g o ad (up (M_refused) 0 (M_refused 0 + 1)) (M_now) (M_kept) (M_states) (M_place) (M_startFact) (M_node) (M_fact) (M_ahead) (M_inside) (M_entries) (M_caller) (M_following) (M_firstCaller) (M_lastCaller) (M_callers) (M_known) (M_loose) (M_stack) (M_high) (M_pairs) (M_told) (M_text) (M_typed) (M_orders) (M_written) (M_look)) (some (.int (iI (-2)))) := by
  refine MW_start (by decide) (Nat.le_of_ble_eq_true rfl) ?_
  intro zp ze zs zm zb zt zc A hAe C hrt hlk hW ls hl
  have hA : ∀ q, zs.heap.size ≤ q → A q := fun q h => by rw [hAe]; exact Or.inr h
  have hl : lv_has ls 1 [(0, .ref (o))] := hl
  refine r_aload_n C dX5_bad_0 hl 0 rfl ?_
  refine r_get (v := .ref (ad 0)) C f_X5_7 hW.1 0 rfl rfl dX5_bad_1 ?_
  refine r_iconst (z := 0) C dX5_bad_4 rfl ?_
  refine r_dup2 C rfl rfl dX5_bad_5 ?_
  refine r_iald (f := M_refused) C hW.1 1 rfl (Nat.le_of_ble_eq_true rfl) (by omega) dX5_bad_6 ?_
  refine r_iconst (z := 1) C dX5_bad_7 rfl ?_
  refine r_iadd C dX5_bad_8 ?_
  refine r_iast (f := M_refused) C hW (mF g o ad (up (M_refused) 0 ((M_refused 0) + 1)) (M_now) (M_kept) (M_states) (M_place) (M_startFact) (M_node) (M_fact) (M_ahead) (M_inside) (M_entries) (M_caller) (M_following) (M_firstCaller) (M_lastCaller) (M_callers) (M_known) (M_loose) (M_stack) (M_high) (M_pairs) (M_told) (M_text) (M_typed) (M_orders) (M_written) (M_look)) 1 rfl (Nat.le_of_ble_eq_true rfl) (by omega) rfl dX5_bad_9 (fun H locs hW => ?_)
  refine r_bipush (z := -2) C dX5_bad_10 rfl ?_
  exact MW_iret C hAe hrt hlk hW dX5_bad_12 (iw rfl) rfl
set_option maxHeartbeats 4000000 in
set_option maxRecDepth 100000 in
theorem c_X5_no (l : Launch) (g : GG) (o : Nat) (ad : Nat → Nat) (M_refused : (Int → Int)) (M_now : (Int → Int)) (M_kept : (Int → Int)) (M_states : Int) (M_place : (Int → Int)) (M_startFact : (Int → Int)) (M_node : (Int → Int)) (M_fact : (Int → Int)) (M_ahead : (Int → Int)) (M_inside : (Int → Int)) (M_entries : Int) (M_caller : (Int → Int)) (M_following : (Int → Int)) (M_firstCaller : (Int → Int)) (M_lastCaller : (Int → Int)) (M_callers : Int) (M_known : Int) (M_loose : (Int → Int)) (M_stack : (Int → Int)) (M_high : Int) (M_pairs : (Int → Int)) (M_told : Int) (M_text : (Int → Int)) (M_typed : Int) (M_orders : (Int → Int)) (M_written : Int) (M_look : Int) : MW l g yX5_no cX5_no 1 (some .int) 0 0 [.ref (o)] (mF g o ad (M_refused) (M_now) (M_kept) (M_states) (M_place) (M_startFact) (M_node) (M_fact) (M_ahead) (M_inside) (M_entries) (M_caller) (M_following) (M_firstCaller) (M_lastCaller) (M_callers) (M_known) (M_loose) (M_stack) (M_high) (M_pairs) (M_told) (M_text) (M_typed) (M_orders) (M_written) (M_look)) (mF g o ad (up (M_refused) 1 (M_refused 1 + 1)) (M_now) (M_kept) (M_states) (M_place) (M_startFact) (M_node) (M_fact) (M_ahead) (M_inside) (M_entries) (M_caller) (M_following) (M_firstCaller) (M_lastCaller) (M_callers) (M_known) (M_loose) (M_stack) (M_high) (M_pairs) (M_told) (M_text) (M_typed) (M_orders) (M_written) (M_look)) (some (.int (iI (-3)))) := by
  refine MW_start (by decide) (Nat.le_of_ble_eq_true rfl) ?_
  intro zp ze zs zm zb zt zc A hAe C hrt hlk hW ls hl
  have hA : ∀ q, zs.heap.size ≤ q → A q := fun q h => by rw [hAe]; exact Or.inr h
  have hl : lv_has ls 1 [(0, .ref (o))] := hl
  refine r_aload_n C dX5_no_0 hl 0 rfl ?_
  refine r_get (v := .ref (ad 0)) C f_X5_7 hW.1 0 rfl rfl dX5_no_1 ?_
  refine r_iconst (z := 1) C dX5_no_4 rfl ?_
  refine r_dup2 C rfl rfl dX5_no_5 ?_
  refine r_iald (f := M_refused) C hW.1 1 rfl (Nat.le_of_ble_eq_true rfl) (by omega) dX5_no_6 ?_
  refine r_iconst (z := 1) C dX5_no_7 rfl ?_
  refine r_iadd C dX5_no_8 ?_
  refine r_iast (f := M_refused) C hW (mF g o ad (up (M_refused) 1 ((M_refused 1) + 1)) (M_now) (M_kept) (M_states) (M_place) (M_startFact) (M_node) (M_fact) (M_ahead) (M_inside) (M_entries) (M_caller) (M_following) (M_firstCaller) (M_lastCaller) (M_callers) (M_known) (M_loose) (M_stack) (M_high) (M_pairs) (M_told) (M_text) (M_typed) (M_orders) (M_written) (M_look)) 1 rfl (Nat.le_of_ble_eq_true rfl) (by omega) rfl dX5_no_9 (fun H locs hW => ?_)
  refine r_bipush (z := -3) C dX5_no_10 rfl ?_
  exact MW_iret C hAe hrt hlk hW dX5_no_12 (iw rfl) rfl
set_option maxHeartbeats 4000000 in
set_option maxRecDepth 100000 in
theorem c_X5_full (l : Launch) (g : GG) (o : Nat) (ad : Nat → Nat) (M_refused : (Int → Int)) (M_now : (Int → Int)) (M_kept : (Int → Int)) (M_states : Int) (M_place : (Int → Int)) (M_startFact : (Int → Int)) (M_node : (Int → Int)) (M_fact : (Int → Int)) (M_ahead : (Int → Int)) (M_inside : (Int → Int)) (M_entries : Int) (M_caller : (Int → Int)) (M_following : (Int → Int)) (M_firstCaller : (Int → Int)) (M_lastCaller : (Int → Int)) (M_callers : Int) (M_known : Int) (M_loose : (Int → Int)) (M_stack : (Int → Int)) (M_high : Int) (M_pairs : (Int → Int)) (M_told : Int) (M_text : (Int → Int)) (M_typed : Int) (M_orders : (Int → Int)) (M_written : Int) (M_look : Int) : MW l g yX5_full cX5_full 1 (some .int) 0 0 [.ref (o)] (mF g o ad (M_refused) (M_now) (M_kept) (M_states) (M_place) (M_startFact) (M_node) (M_fact) (M_ahead) (M_inside) (M_entries) (M_caller) (M_following) (M_firstCaller) (M_lastCaller) (M_callers) (M_known) (M_loose) (M_stack) (M_high) (M_pairs) (M_told) (M_text) (M_typed) (M_orders) (M_written) (M_look)) (mF g o ad (up (M_refused) 2 (M_refused 2 + 1)) (M_now) (M_kept) (M_states) (M_place) (M_startFact) (M_node) (M_fact) (M_ahead) (M_inside) (M_entries) (M_caller) (M_following) (M_firstCaller) (M_lastCaller) (M_callers) (M_known) (M_loose) (M_stack) (M_high) (M_pairs) (M_told) (M_text) (M_typed) (M_orders) (M_written) (M_look)) (some (.int (iI (-4)))) := by
  refine MW_start (by decide) (Nat.le_of_ble_eq_true rfl) ?_
  intro zp ze zs zm zb zt zc A hAe C hrt hlk hW ls hl
  have hA : ∀ q, zs.heap.size ≤ q → A q := fun q h => by rw [hAe]; exact Or.inr h
  have hl : lv_has ls 1 [(0, .ref (o))] := hl
  refine r_aload_n C dX5_full_0 hl 0 rfl ?_
  refine r_get (v := .ref (ad 0)) C f_X5_7 hW.1 0 rfl rfl dX5_full_1 ?_
  refine r_iconst (z := 2) C dX5_full_4 rfl ?_
  refine r_dup2 C rfl rfl dX5_full_5 ?_
  refine r_iald (f := M_refused) C hW.1 1 rfl (Nat.le_of_ble_eq_true rfl) (by omega) dX5_full_6 ?_
  refine r_iconst (z := 1) C dX5_full_7 rfl ?_
  refine r_iadd C dX5_full_8 ?_
  refine r_iast (f := M_refused) C hW (mF g o ad (up (M_refused) 2 ((M_refused 2) + 1)) (M_now) (M_kept) (M_states) (M_place) (M_startFact) (M_node) (M_fact) (M_ahead) (M_inside) (M_entries) (M_caller) (M_following) (M_firstCaller) (M_lastCaller) (M_callers) (M_known) (M_loose) (M_stack) (M_high) (M_pairs) (M_told) (M_text) (M_typed) (M_orders) (M_written) (M_look)) 1 rfl (Nat.le_of_ble_eq_true rfl) (by omega) rfl dX5_full_9 (fun H locs hW => ?_)
  refine r_bipush (z := -4) C dX5_full_10 rfl ?_
  exact MW_iret C hAe hrt hlk hW dX5_full_12 (iw rfl) rfl
set_option maxHeartbeats 4000000 in
set_option maxRecDepth 100000 in
theorem c_X5_counted (l : Launch) (g : GG) (o : Nat) (ad : Nat → Nat) (M_refused : (Int → Int)) (M_now : (Int → Int)) (M_kept : (Int → Int)) (M_states : Int) (M_place : (Int → Int)) (M_startFact : (Int → Int)) (M_node : (Int → Int)) (M_fact : (Int → Int)) (M_ahead : (Int → Int)) (M_inside : (Int → Int)) (M_entries : Int) (M_caller : (Int → Int)) (M_following : (Int → Int)) (M_firstCaller : (Int → Int)) (M_lastCaller : (Int → Int)) (M_callers : Int) (M_known : Int) (M_loose : (Int → Int)) (M_stack : (Int → Int)) (M_high : Int) (M_pairs : (Int → Int)) (M_told : Int) (M_text : (Int → Int)) (M_typed : Int) (M_orders : (Int → Int)) (M_written : Int) (M_look : Int) (w : Int) (h_w : rg w) : MW l g yX5_counted cX5_counted 2 (some .int) 1 20 [.ref (o), .int (iI (w))] (mF g o ad (M_refused) (M_now) (M_kept) (M_states) (M_place) (M_startFact) (M_node) (M_fact) (M_ahead) (M_inside) (M_entries) (M_caller) (M_following) (M_firstCaller) (M_lastCaller) (M_callers) (M_known) (M_loose) (M_stack) (M_high) (M_pairs) (M_told) (M_text) (M_typed) (M_orders) (M_written) (M_look)) (mF g o ad (m_refused (mCounted w (M_refused, M_now, M_kept, M_states, M_place, M_startFact, M_node, M_fact, M_ahead, M_inside, M_entries, M_caller, M_following, M_firstCaller, M_lastCaller, M_callers, M_known, M_loose, M_stack, M_high, M_pairs, M_told, M_text, M_typed, M_orders, M_written, M_look))) (m_now (mCounted w (M_refused, M_now, M_kept, M_states, M_place, M_startFact, M_node, M_fact, M_ahead, M_inside, M_entries, M_caller, M_following, M_firstCaller, M_lastCaller, M_callers, M_known, M_loose, M_stack, M_high, M_pairs, M_told, M_text, M_typed, M_orders, M_written, M_look))) (m_kept (mCounted w (M_refused, M_now, M_kept, M_states, M_place, M_startFact, M_node, M_fact, M_ahead, M_inside, M_entries, M_caller, M_following, M_firstCaller, M_lastCaller, M_callers, M_known, M_loose, M_stack, M_high, M_pairs, M_told, M_text, M_typed, M_orders, M_written, M_look))) (m_states (mCounted w (M_refused, M_now, M_kept, M_states, M_place, M_startFact, M_node, M_fact, M_ahead, M_inside, M_entries, M_caller, M_following, M_firstCaller, M_lastCaller, M_callers, M_known, M_loose, M_stack, M_high, M_pairs, M_told, M_text, M_typed, M_orders, M_written, M_look))) (m_place (mCounted w (M_refused, M_now, M_kept, M_states, M_place, M_startFact, M_node, M_fact, M_ahead, M_inside, M_entries, M_caller, M_following, M_firstCaller, M_lastCaller, M_callers, M_known, M_loose, M_stack, M_high, M_pairs, M_told, M_text, M_typed, M_orders, M_written, M_look))) (m_startFact (mCounted w (M_refused, M_now, M_kept, M_states, M_place, M_startFact, M_node, M_fact, M_ahead, M_inside, M_entries, M_caller, M_following, M_firstCaller, M_lastCaller, M_callers, M_known, M_loose, M_stack, M_high, M_pairs, M_told, M_text, M_typed, M_orders, M_written, M_look))) (m_node (mCounted w (M_refused, M_now, M_kept, M_states, M_place, M_startFact, M_node, M_fact, M_ahead, M_inside, M_entries, M_caller, M_following, M_firstCaller, M_lastCaller, M_callers, M_known, M_loose, M_stack, M_high, M_pairs, M_told, M_text, M_typed, M_orders, M_written, M_look))) (m_fact (mCounted w (M_refused, M_now, M_kept, M_states, M_place, M_startFact, M_node, M_fact, M_ahead, M_inside, M_entries, M_caller, M_following, M_firstCaller, M_lastCaller, M_callers, M_known, M_loose, M_stack, M_high, M_pairs, M_told, M_text, M_typed, M_orders, M_written, M_look))) (m_ahead (mCounted w (M_refused, M_now, M_kept, M_states, M_place, M_startFact, M_node, M_fact, M_ahead, M_inside, M_entries, M_caller, M_following, M_firstCaller, M_lastCaller, M_callers, M_known, M_loose, M_stack, M_high, M_pairs, M_told, M_text, M_typed, M_orders, M_written, M_look))) (m_inside (mCounted w (M_refused, M_now, M_kept, M_states, M_place, M_startFact, M_node, M_fact, M_ahead, M_inside, M_entries, M_caller, M_following, M_firstCaller, M_lastCaller, M_callers, M_known, M_loose, M_stack, M_high, M_pairs, M_told, M_text, M_typed, M_orders, M_written, M_look))) (m_entries (mCounted w (M_refused, M_now, M_kept, M_states, M_place, M_startFact, M_node, M_fact, M_ahead, M_inside, M_entries, M_caller, M_following, M_firstCaller, M_lastCaller, M_callers, M_known, M_loose, M_stack, M_high, M_pairs, M_told, M_text, M_typed, M_orders, M_written, M_look))) (m_caller (mCounted w (M_refused, M_now, M_kept, M_states, M_place, M_startFact, M_node, M_fact, M_ahead, M_inside, M_entries, M_caller, M_following, M_firstCaller, M_lastCaller, M_callers, M_known, M_loose, M_stack, M_high, M_pairs, M_told, M_text, M_typed, M_orders, M_written, M_look))) (m_following (mCounted w (M_refused, M_now, M_kept, M_states, M_place, M_startFact, M_node, M_fact, M_ahead, M_inside, M_entries, M_caller, M_following, M_firstCaller, M_lastCaller, M_callers, M_known, M_loose, M_stack, M_high, M_pairs, M_told, M_text, M_typed, M_orders, M_written, M_look))) (m_firstCaller (mCounted w (M_refused, M_now, M_kept, M_states, M_place, M_startFact, M_node, M_fact, M_ahead, M_inside, M_entries, M_caller, M_following, M_firstCaller, M_lastCaller, M_callers, M_known, M_loose, M_stack, M_high, M_pairs, M_told, M_text, M_typed, M_orders, M_written, M_look))) (m_lastCaller (mCounted w (M_refused, M_now, M_kept, M_states, M_place, M_startFact, M_node, M_fact, M_ahead, M_inside, M_entries, M_caller, M_following, M_firstCaller, M_lastCaller, M_callers, M_known, M_loose, M_stack, M_high, M_pairs, M_told, M_text, M_typed, M_orders, M_written, M_look))) (m_callers (mCounted w (M_refused, M_now, M_kept, M_states, M_place, M_startFact, M_node, M_fact, M_ahead, M_inside, M_entries, M_caller, M_following, M_firstCaller, M_lastCaller, M_callers, M_known, M_loose, M_stack, M_high, M_pairs, M_told, M_text, M_typed, M_orders, M_written, M_look))) (m_known (mCounted w (M_refused, M_now, M_kept, M_states, M_place, M_startFact, M_node, M_fact, M_ahead, M_inside, M_entries, M_caller, M_following, M_firstCaller, M_lastCaller, M_callers, M_known, M_loose, M_stack, M_high, M_pairs, M_told, M_text, M_typed, M_orders, M_written, M_look))) (m_loose (mCounted w (M_refused, M_now, M_kept, M_states, M_place, M_startFact, M_node, M_fact, M_ahead, M_inside, M_entries, M_caller, M_following, M_firstCaller, M_lastCaller, M_callers, M_known, M_loose, M_stack, M_high, M_pairs, M_told, M_text, M_typed, M_orders, M_written, M_look))) (m_stack (mCounted w (M_refused, M_now, M_kept, M_states, M_place, M_startFact, M_node, M_fact, M_ahead, M_inside, M_entries, M_caller, M_following, M_firstCaller, M_lastCaller, M_callers, M_known, M_loose, M_stack, M_high, M_pairs, M_told, M_text, M_typed, M_orders, M_written, M_look))) (m_high (mCounted w (M_refused, M_now, M_kept, M_states, M_place, M_startFact, M_node, M_fact, M_ahead, M_inside, M_entries, M_caller, M_following, M_firstCaller, M_lastCaller, M_callers, M_known, M_loose, M_stack, M_high, M_pairs, M_told, M_text, M_typed, M_orders, M_written, M_look))) (m_pairs (mCounted w (M_refused, M_now, M_kept, M_states, M_place, M_startFact, M_node, M_fact, M_ahead, M_inside, M_entries, M_caller, M_following, M_firstCaller, M_lastCaller, M_callers, M_known, M_loose, M_stack, M_high, M_pairs, M_told, M_text, M_typed, M_orders, M_written, M_look))) (m_told (mCounted w (M_refused, M_now, M_kept, M_states, M_place, M_startFact, M_node, M_fact, M_ahead, M_inside, M_entries, M_caller, M_following, M_firstCaller, M_lastCaller, M_callers, M_known, M_loose, M_stack, M_high, M_pairs, M_told, M_text, M_typed, M_orders, M_written, M_look))) (m_text (mCounted w (M_refused, M_now, M_kept, M_states, M_place, M_startFact, M_node, M_fact, M_ahead, M_inside, M_entries, M_caller, M_following, M_firstCaller, M_lastCaller, M_callers, M_known, M_loose, M_stack, M_high, M_pairs, M_told, M_text, M_typed, M_orders, M_written, M_look))) (m_typed (mCounted w (M_refused, M_now, M_kept, M_states, M_place, M_startFact, M_node, M_fact, M_ahead, M_inside, M_entries, M_caller, M_following, M_firstCaller, M_lastCaller, M_callers, M_known, M_loose, M_stack, M_high, M_pairs, M_told, M_text, M_typed, M_orders, M_written, M_look))) (m_orders (mCounted w (M_refused, M_now, M_kept, M_states, M_place, M_startFact, M_node, M_fact, M_ahead, M_inside, M_entries, M_caller, M_following, M_firstCaller, M_lastCaller, M_callers, M_known, M_loose, M_stack, M_high, M_pairs, M_told, M_text, M_typed, M_orders, M_written, M_look))) (m_written (mCounted w (M_refused, M_now, M_kept, M_states, M_place, M_startFact, M_node, M_fact, M_ahead, M_inside, M_entries, M_caller, M_following, M_firstCaller, M_lastCaller, M_callers, M_known, M_loose, M_stack, M_high, M_pairs, M_told, M_text, M_typed, M_orders, M_written, M_look))) (m_look (mCounted w (M_refused, M_now, M_kept, M_states, M_place, M_startFact, M_node, M_fact, M_ahead, M_inside, M_entries, M_caller, M_following, M_firstCaller, M_lastCaller, M_callers, M_known, M_loose, M_stack, M_high, M_pairs, M_told, M_text, M_typed, M_orders, M_written, M_look)))) (some (.int (iI (w)))) := by
  refine MW_start (by decide) (Nat.le_of_ble_eq_true rfl) ?_
  intro zp ze zs zm zb zt zc A hAe C hrt hlk hW ls hl
  have hA : ∀ q, zs.heap.size ≤ q → A q := fun q h => by rw [hAe]; exact Or.inr h
  have hl : lv_has ls 2 [(0, .ref (o)), (1, .int (iI (w)))] := hl
  refine r_iload_n C dX5_counted_0 hl 1 rfl ?_
  refine r_bipush (z := -2) C dX5_counted_1 rfl ?_
  refine r_icmp_ne C 13 dX5_counted_3 (by decide) (by omega) (by omega) (fun hc1 => ?_) (fun hc1 => ?_)
  · skip
    refine r_iload_n C dX5_counted_13 hl 1 rfl ?_
    refine r_bipush (z := -3) C dX5_counted_14 rfl ?_
    refine r_icmp_ne C 26 dX5_counted_16 (by decide) (by omega) (by omega) (fun hc2 => ?_) (fun hc2 => ?_)
    · skip
      refine r_iload_n C dX5_counted_26 hl 1 rfl ?_
      refine r_bipush (z := -4) C dX5_counted_27 rfl ?_
      refine r_icmp_ne C 39 dX5_counted_29 (by decide) (by omega) (by omega) (fun hc3 => ?_) (fun hc3 => ?_)
      · skip
        refine r_iload_n C dX5_counted_39 hl 1 rfl ?_
        exact MW_iret C hAe hrt hlk hW dX5_counted_40 (iw (by omega)) (by unfold mCounted mBump; (repeat' split) <;> first | rfl | (exfalso; omega))
      · skip
        refine r_aload_n C dX5_counted_32 hl 0 rfl ?_
        refine r_callW (rest := []) (r := some (.int (iI (-4)))) (wr := []) (ws2 := mF g o ad (up ((M_refused)) 2 ((M_refused) 2 + 1)) (M_now) (M_kept) (M_states) (M_place) (M_startFact) (M_node) (M_fact) (M_ahead) (M_inside) (M_entries) (M_caller) (M_following) (M_firstCaller) (M_lastCaller) (M_callers) (M_known) (M_loose) (M_stack) (M_high) (M_pairs) (M_told) (M_text) (M_typed) (M_orders) (M_written) (M_look)) (st1 := [.int (iI (-4))]) C hl.1 hW hA (c_X5_full l g o ad (M_refused) (M_now) (M_kept) (M_states) (M_place) (M_startFact) (M_node) (M_fact) (M_ahead) (M_inside) (M_entries) (M_caller) (M_following) (M_firstCaller) (M_lastCaller) (M_callers) (M_known) (M_loose) (M_stack) (M_high) (M_pairs) (M_told) (M_text) (M_typed) (M_orders) (M_written) (M_look)) v_X5_74 rfl [0, 1, 2, 3, 4, 5, 6, 7, 8, 9, 10, 11, 12, 13, 14, 15, 16, 17, 18] [] [0, 1, 2, 3, 4, 5, 6, 7, 8, 9, 10, 11, 12, 13, 14, 15, 16, 17, 18] rfl rfl (by decide) (by decide) rfl rfl 0 rfl rfl rfl (by decide) (by decide) (Nat.le_of_ble_eq_true rfl) dX5_counted_33 rfl rfl (fun H locs hW => ?_)
        refine r_goto C 40 dX5_counted_36 (by decide) ?_
        exact MW_iret C hAe hrt hlk hW dX5_counted_40 (iw (by omega)) (by unfold mCounted mBump; (repeat' split) <;> first | rfl | (exfalso; omega))
    · skip
      refine r_aload_n C dX5_counted_19 hl 0 rfl ?_
      refine r_callW (rest := []) (r := some (.int (iI (-3)))) (wr := []) (ws2 := mF g o ad (up ((M_refused)) 1 ((M_refused) 1 + 1)) (M_now) (M_kept) (M_states) (M_place) (M_startFact) (M_node) (M_fact) (M_ahead) (M_inside) (M_entries) (M_caller) (M_following) (M_firstCaller) (M_lastCaller) (M_callers) (M_known) (M_loose) (M_stack) (M_high) (M_pairs) (M_told) (M_text) (M_typed) (M_orders) (M_written) (M_look)) (st1 := [.int (iI (-3))]) C hl.1 hW hA (c_X5_no l g o ad (M_refused) (M_now) (M_kept) (M_states) (M_place) (M_startFact) (M_node) (M_fact) (M_ahead) (M_inside) (M_entries) (M_caller) (M_following) (M_firstCaller) (M_lastCaller) (M_callers) (M_known) (M_loose) (M_stack) (M_high) (M_pairs) (M_told) (M_text) (M_typed) (M_orders) (M_written) (M_look)) v_X5_71 rfl [0, 1, 2, 3, 4, 5, 6, 7, 8, 9, 10, 11, 12, 13, 14, 15, 16, 17, 18] [] [0, 1, 2, 3, 4, 5, 6, 7, 8, 9, 10, 11, 12, 13, 14, 15, 16, 17, 18] rfl rfl (by decide) (by decide) rfl rfl 0 rfl rfl rfl (by decide) (by decide) (Nat.le_of_ble_eq_true rfl) dX5_counted_20 rfl rfl (fun H locs hW => ?_)
      refine r_goto C 40 dX5_counted_23 (by decide) ?_
      exact MW_iret C hAe hrt hlk hW dX5_counted_40 (iw (by omega)) (by unfold mCounted mBump; (repeat' split) <;> first | rfl | (exfalso; omega))
  · skip
    refine r_aload_n C dX5_counted_6 hl 0 rfl ?_
    refine r_callW (rest := []) (r := some (.int (iI (-2)))) (wr := []) (ws2 := mF g o ad (up ((M_refused)) 0 ((M_refused) 0 + 1)) (M_now) (M_kept) (M_states) (M_place) (M_startFact) (M_node) (M_fact) (M_ahead) (M_inside) (M_entries) (M_caller) (M_following) (M_firstCaller) (M_lastCaller) (M_callers) (M_known) (M_loose) (M_stack) (M_high) (M_pairs) (M_told) (M_text) (M_typed) (M_orders) (M_written) (M_look)) (st1 := [.int (iI (-2))]) C hl.1 hW hA (c_X5_bad l g o ad (M_refused) (M_now) (M_kept) (M_states) (M_place) (M_startFact) (M_node) (M_fact) (M_ahead) (M_inside) (M_entries) (M_caller) (M_following) (M_firstCaller) (M_lastCaller) (M_callers) (M_known) (M_loose) (M_stack) (M_high) (M_pairs) (M_told) (M_text) (M_typed) (M_orders) (M_written) (M_look)) v_X5_68 rfl [0, 1, 2, 3, 4, 5, 6, 7, 8, 9, 10, 11, 12, 13, 14, 15, 16, 17, 18] [] [0, 1, 2, 3, 4, 5, 6, 7, 8, 9, 10, 11, 12, 13, 14, 15, 16, 17, 18] rfl rfl (by decide) (by decide) rfl rfl 0 rfl rfl rfl (by decide) (by decide) (Nat.le_of_ble_eq_true rfl) dX5_counted_7 rfl rfl (fun H locs hW => ?_)
    refine r_goto C 40 dX5_counted_10 (by decide) ?_
    exact MW_iret C hAe hrt hlk hW dX5_counted_40 (iw (by omega)) (by unfold mCounted mBump; (repeat' split) <;> first | rfl | (exfalso; omega))
set_option maxHeartbeats 4000000 in
set_option maxRecDepth 100000 in
theorem c_X5_in (l : Launch) (g : GG) (v a b : Int) (h_v : rg v) (h_a : rg a) (h_b : rg b) : MR l g yX5_in cX5_in 3 (some .boolean) 0 0 [.int (iI (v)), .int (iI (a)), .int (iI (b))] ([]) (.int (iI (bI (a ≤ v ∧ v ≤ b)))) := by
  refine MR_start (by decide) (Nat.le_of_ble_eq_true rfl) ?_
  intro zp ze zs zm zb zt zc C hrt hlk hH ls hl
  have hl : lv_has ls 3 [(0, .int (iI (v))), (1, .int (iI (a))), (2, .int (iI (b)))] := hl
  refine r_iload_n C dX5_in_0 hl 0 rfl ?_
  refine r_iload_n C dX5_in_1 hl 1 rfl ?_
  refine r_icmp_lt C 14 dX5_in_2 (by decide) (by omega) (by omega) (fun hc1 => ?_) (fun hc1 => ?_)
  · skip
    refine r_iconst (z := 0) C dX5_in_14 rfl ?_
    exact MR_zret (d := a ≤ v ∧ v ≤ b) C hrt hlk dX5_in_15 (bI_f (by first | assumption | omega)).symm rfl
  · skip
    refine r_iload_n C dX5_in_5 hl 0 rfl ?_
    refine r_iload_n C dX5_in_6 hl 2 rfl ?_
    refine r_icmp_gt C 14 dX5_in_7 (by decide) (by omega) (by omega) (fun hc2 => ?_) (fun hc2 => ?_)
    · skip
      refine r_iconst (z := 0) C dX5_in_14 rfl ?_
      exact MR_zret (d := a ≤ v ∧ v ≤ b) C hrt hlk dX5_in_15 (bI_f (by first | assumption | omega)).symm rfl
    · skip
      refine r_iconst (z := 1) C dX5_in_10 rfl ?_
      refine r_goto C 15 dX5_in_11 (by decide) ?_
      exact MR_zret (d := a ≤ v ∧ v ≤ b) C hrt hlk dX5_in_15 (bI_t (by first | assumption | omega)).symm rfl
set_option maxHeartbeats 4000000 in
set_option maxRecDepth 100000 in
theorem c_X5_puts (l : Launch) (g : GG) (o : Nat) (ad : Nat → Nat) (M_refused : (Int → Int)) (M_now : (Int → Int)) (M_kept : (Int → Int)) (M_states : Int) (M_place : (Int → Int)) (M_startFact : (Int → Int)) (M_node : (Int → Int)) (M_fact : (Int → Int)) (M_ahead : (Int → Int)) (M_inside : (Int → Int)) (M_entries : Int) (M_caller : (Int → Int)) (M_following : (Int → Int)) (M_firstCaller : (Int → Int)) (M_lastCaller : (Int → Int)) (M_callers : Int) (M_known : Int) (M_loose : (Int → Int)) (M_stack : (Int → Int)) (M_high : Int) (M_pairs : (Int → Int)) (M_told : Int) (M_text : (Int → Int)) (M_typed : Int) (M_orders : (Int → Int)) (M_written : Int) (M_look : Int) (sl : Int) (h_sl : 0 ≤ sl ∧ sl ≤ 5) : MW l g yX5_puts cX5_puts 3 none 0 0 [.ref (o), .int (iI (sl))] (mF g o ad (M_refused) (M_now) (M_kept) (M_states) (M_place) (M_startFact) (M_node) (M_fact) (M_ahead) (M_inside) (M_entries) (M_caller) (M_following) (M_firstCaller) (M_lastCaller) (M_callers) (M_known) (M_loose) (M_stack) (M_high) (M_pairs) (M_told) (M_text) (M_typed) (M_orders) (M_written) (M_look)) (mF g o ad (M_refused) (M_now) (nPut sl (M_now) (M_kept)) (M_states) (M_place) (M_startFact) (M_node) (M_fact) (M_ahead) (M_inside) (M_entries) (M_caller) (M_following) (M_firstCaller) (M_lastCaller) (M_callers) (M_known) (M_loose) (M_stack) (M_high) (M_pairs) (M_told) (M_text) (M_typed) (M_orders) (M_written) (M_look)) none := by
  refine MW_start (by decide) (Nat.le_of_ble_eq_true rfl) ?_
  intro zp ze zs zm zb zt zc A hAe C hrt hlk hW ls hl
  have hA : ∀ q, zs.heap.size ≤ q → A q := fun q h => by rw [hAe]; exact Or.inr h
  have hl : lv_has ls 3 [(0, .ref (o)), (1, .int (iI (sl)))] := hl
  refine r_iconst (z := 0) C dX5_puts_0 rfl ?_
  refine r_istore_n C [(2, .int (iI (0))), (0, .ref (o)), (1, .int (iI (sl)))] dX5_puts_1 hl (by decide) rfl (fun ls hl => ?_)
  have hloop2 : ∀ (k2 : Nat) (c : Int) (K : Int → Int) (hkk : c + k2 = 926) (hc : 0 ≤ c) (hq : nPut sl (M_now) (M_kept) = it (fun c K => up K (926 * sl + c) (M_now c)) k2 c K) (H : Heap) (locs : List Loc) (ls : Array Slot), HW g A zs.heap (mF g o ad (M_refused) (M_now) K (M_states) (M_place) (M_startFact) (M_node) (M_fact) (M_ahead) (M_inside) (M_entries) (M_caller) (M_following) (M_firstCaller) (M_lastCaller) (M_callers) (M_known) (M_loose) (M_stack) (M_high) (M_pairs) (M_told) (M_text) (M_typed) (M_orders) (M_written) (M_look)) H locs → lv_has ls 3 [(0, .ref (o)), (1, .int (iI (sl))), (2, .int (iI (c)))] → W zp l ze (rmm 0 0) zs zm (List.toArray [.ref (o), .int (iI (sl))]) zb zt zc H locs 0 0 (MQ zb (QW g (mF g o ad (M_refused) (M_now) (M_kept) (M_states) (M_place) (M_startFact) (M_node) (M_fact) (M_ahead) (M_inside) (M_entries) (M_caller) (M_following) (M_firstCaller) (M_lastCaller) (M_callers) (M_known) (M_loose) (M_stack) (M_high) (M_pairs) (M_told) (M_text) (M_typed) (M_orders) (M_written) (M_look)) (mF g o ad (M_refused) (M_now) (nPut sl (M_now) (M_kept)) (M_states) (M_place) (M_startFact) (M_node) (M_fact) (M_ahead) (M_inside) (M_entries) (M_caller) (M_following) (M_firstCaller) (M_lastCaller) (M_callers) (M_known) (M_loose) (M_stack) (M_high) (M_pairs) (M_told) (M_text) (M_typed) (M_orders) (M_written) (M_look)) zs.heap.size none) (List.toArray [.ref (o), .int (iI (sl))]) zs 0 0 A) (F0 zm 2 ls []) := by
    intro k2
    induction k2 with
    | zero =>
      intro c K hkk hc hq H locs ls hW hl
      refine r_iload_n C dX5_puts_2 hl 2 rfl ?_
      refine r_sipush (z := 926) C dX5_puts_3 rfl ?_
      refine r_icmp_ge C 33 dX5_puts_6 (by decide) (by omega) (by omega) (fun hc1 => ?_) (fun hc1 => ?_)
      · skip
        exact MW_vret C hAe hrt hlk hW dX5_puts_33 rfl (by rw [hq]; rfl)
      · exact absurd hc1 (by omega)
    | succ k2 ih2 =>
      intro c K hkk hc hq H locs ls hW hl
      refine r_iload_n C dX5_puts_2 hl 2 rfl ?_
      refine r_sipush (z := 926) C dX5_puts_3 rfl ?_
      refine r_icmp_ge C 33 dX5_puts_6 (by decide) (by omega) (by omega) (fun hc2 => ?_) (fun hc2 => ?_)
      · exact absurd hc2 (by omega)
      · skip
        refine r_aload_n C dX5_puts_9 hl 0 rfl ?_
        refine r_get (v := .ref (ad 2)) C f_X5_16 hW.1 0 rfl rfl dX5_puts_10 ?_
        refine r_sipush (z := 926) C dX5_puts_13 rfl ?_
        refine r_iload_n C dX5_puts_16 hl 1 rfl ?_
        refine r_imul C dX5_puts_17 ?_
        refine r_iload_n C dX5_puts_18 hl 2 rfl ?_
        refine r_iadd C dX5_puts_19 ?_
        refine r_aload_n C dX5_puts_20 hl 0 rfl ?_
        refine r_get (v := .ref (ad 1)) C f_X5_13 hW.1 0 rfl rfl dX5_puts_21 ?_
        refine r_iload_n C dX5_puts_24 hl 2 rfl ?_
        refine r_iald (f := M_now) C hW.1 2 rfl (Nat.le_of_ble_eq_true rfl) (by omega) dX5_puts_25 ?_
        refine r_iast (f := K) C hW (mF g o ad (M_refused) (M_now) (up K ((926 * sl) + c) (M_now c)) (M_states) (M_place) (M_startFact) (M_node) (M_fact) (M_ahead) (M_inside) (M_entries) (M_caller) (M_following) (M_firstCaller) (M_lastCaller) (M_callers) (M_known) (M_loose) (M_stack) (M_high) (M_pairs) (M_told) (M_text) (M_typed) (M_orders) (M_written) (M_look)) 3 rfl (Nat.le_of_ble_eq_true rfl) (by omega) rfl dX5_puts_26 (fun H locs hW => ?_)
        refine r_iinc (v := c + 1) C [(2, .int (iI (c + 1))), (0, .ref (o)), (1, .int (iI (sl)))] dX5_puts_27 hl 2 rfl (by decide) (by omega) rfl (fun ls hl => ?_)
        refine r_goto C 2 dX5_puts_30 (by decide) ?_
        exact ih2 _ _ (by omega) (by omega) (by rw [hq, it_s]) _ _ ls hW (lv_sub hl [1, 2, 0] rfl)
  exact hloop2 926 0 _ (by omega) (by omega) rfl _ _ ls hW (lv_sub hl [1, 2, 0] rfl)
set_option maxHeartbeats 4000000 in
set_option maxRecDepth 100000 in
theorem c_X5_takes (l : Launch) (g : GG) (o : Nat) (ad : Nat → Nat) (M_refused : (Int → Int)) (M_now : (Int → Int)) (M_kept : (Int → Int)) (M_states : Int) (M_place : (Int → Int)) (M_startFact : (Int → Int)) (M_node : (Int → Int)) (M_fact : (Int → Int)) (M_ahead : (Int → Int)) (M_inside : (Int → Int)) (M_entries : Int) (M_caller : (Int → Int)) (M_following : (Int → Int)) (M_firstCaller : (Int → Int)) (M_lastCaller : (Int → Int)) (M_callers : Int) (M_known : Int) (M_loose : (Int → Int)) (M_stack : (Int → Int)) (M_high : Int) (M_pairs : (Int → Int)) (M_told : Int) (M_text : (Int → Int)) (M_typed : Int) (M_orders : (Int → Int)) (M_written : Int) (M_look : Int) (sl : Int) (h_sl : 0 ≤ sl ∧ sl ≤ 5) : MW l g yX5_takes cX5_takes 3 none 0 0 [.ref (o), .int (iI (sl))] (mF g o ad (M_refused) (M_now) (M_kept) (M_states) (M_place) (M_startFact) (M_node) (M_fact) (M_ahead) (M_inside) (M_entries) (M_caller) (M_following) (M_firstCaller) (M_lastCaller) (M_callers) (M_known) (M_loose) (M_stack) (M_high) (M_pairs) (M_told) (M_text) (M_typed) (M_orders) (M_written) (M_look)) (mF g o ad (M_refused) (nTake sl (M_kept) (M_now)) (M_kept) (M_states) (M_place) (M_startFact) (M_node) (M_fact) (M_ahead) (M_inside) (M_entries) (M_caller) (M_following) (M_firstCaller) (M_lastCaller) (M_callers) 0 (M_loose) (M_stack) (M_high) (M_pairs) (M_told) (M_text) (M_typed) (M_orders) (M_written) (M_look)) none := by
  refine MW_start (by decide) (Nat.le_of_ble_eq_true rfl) ?_
  intro zp ze zs zm zb zt zc A hAe C hrt hlk hW ls hl
  have hA : ∀ q, zs.heap.size ≤ q → A q := fun q h => by rw [hAe]; exact Or.inr h
  have hl : lv_has ls 3 [(0, .ref (o)), (1, .int (iI (sl)))] := hl
  refine r_iconst (z := 0) C dX5_takes_0 rfl ?_
  refine r_istore_n C [(2, .int (iI (0))), (0, .ref (o)), (1, .int (iI (sl)))] dX5_takes_1 hl (by decide) rfl (fun ls hl => ?_)
  have hloop2 : ∀ (k2 : Nat) (c : Int) (f : Int → Int) (hkk : c + k2 = 926) (hc : 0 ≤ c) (hq : nTake sl (M_kept) (M_now) = it (fun c f => up f c (M_kept (926 * sl + c))) k2 c f) (H : Heap) (locs : List Loc) (ls : Array Slot), HW g A zs.heap (mF g o ad (M_refused) f (M_kept) (M_states) (M_place) (M_startFact) (M_node) (M_fact) (M_ahead) (M_inside) (M_entries) (M_caller) (M_following) (M_firstCaller) (M_lastCaller) (M_callers) (M_known) (M_loose) (M_stack) (M_high) (M_pairs) (M_told) (M_text) (M_typed) (M_orders) (M_written) (M_look)) H locs → lv_has ls 3 [(0, .ref (o)), (1, .int (iI (sl))), (2, .int (iI (c)))] → W zp l ze (rmm 0 0) zs zm (List.toArray [.ref (o), .int (iI (sl))]) zb zt zc H locs 0 0 (MQ zb (QW g (mF g o ad (M_refused) (M_now) (M_kept) (M_states) (M_place) (M_startFact) (M_node) (M_fact) (M_ahead) (M_inside) (M_entries) (M_caller) (M_following) (M_firstCaller) (M_lastCaller) (M_callers) (M_known) (M_loose) (M_stack) (M_high) (M_pairs) (M_told) (M_text) (M_typed) (M_orders) (M_written) (M_look)) (mF g o ad (M_refused) (nTake sl (M_kept) (M_now)) (M_kept) (M_states) (M_place) (M_startFact) (M_node) (M_fact) (M_ahead) (M_inside) (M_entries) (M_caller) (M_following) (M_firstCaller) (M_lastCaller) (M_callers) 0 (M_loose) (M_stack) (M_high) (M_pairs) (M_told) (M_text) (M_typed) (M_orders) (M_written) (M_look)) zs.heap.size none) (List.toArray [.ref (o), .int (iI (sl))]) zs 0 0 A) (F0 zm 2 ls []) := by
    intro k2
    induction k2 with
    | zero =>
      intro c f hkk hc hq H locs ls hW hl
      refine r_iload_n C dX5_takes_2 hl 2 rfl ?_
      refine r_sipush (z := 926) C dX5_takes_3 rfl ?_
      refine r_icmp_ge C 33 dX5_takes_6 (by decide) (by omega) (by omega) (fun hc1 => ?_) (fun hc1 => ?_)
      · skip
        refine r_aload_n C dX5_takes_33 hl 0 rfl ?_
        refine r_iconst (z := 0) C dX5_takes_34 rfl ?_
        refine r_put C f_X5_77 fp_5_16 hW (mF g o ad (M_refused) f (M_kept) (M_states) (M_place) (M_startFact) (M_node) (M_fact) (M_ahead) (M_inside) (M_entries) (M_caller) (M_following) (M_firstCaller) (M_lastCaller) (M_callers) 0 (M_loose) (M_stack) (M_high) (M_pairs) (M_told) (M_text) (M_typed) (M_orders) (M_written) (M_look)) 0 rfl (by decide) (by decide) (Nat.le_of_ble_eq_true rfl) rfl dX5_takes_35 (fun H locs hW => ?_)
        exact MW_vret C hAe hrt hlk hW dX5_takes_38 rfl (by rw [hq]; rfl)
      · exact absurd hc1 (by omega)
    | succ k2 ih2 =>
      intro c f hkk hc hq H locs ls hW hl
      refine r_iload_n C dX5_takes_2 hl 2 rfl ?_
      refine r_sipush (z := 926) C dX5_takes_3 rfl ?_
      refine r_icmp_ge C 33 dX5_takes_6 (by decide) (by omega) (by omega) (fun hc2 => ?_) (fun hc2 => ?_)
      · exact absurd hc2 (by omega)
      · skip
        refine r_aload_n C dX5_takes_9 hl 0 rfl ?_
        refine r_get (v := .ref (ad 1)) C f_X5_13 hW.1 0 rfl rfl dX5_takes_10 ?_
        refine r_iload_n C dX5_takes_13 hl 2 rfl ?_
        refine r_aload_n C dX5_takes_14 hl 0 rfl ?_
        refine r_get (v := .ref (ad 2)) C f_X5_16 hW.1 0 rfl rfl dX5_takes_15 ?_
        refine r_sipush (z := 926) C dX5_takes_18 rfl ?_
        refine r_iload_n C dX5_takes_21 hl 1 rfl ?_
        refine r_imul C dX5_takes_22 ?_
        refine r_iload_n C dX5_takes_23 hl 2 rfl ?_
        refine r_iadd C dX5_takes_24 ?_
        refine r_iald (f := M_kept) C hW.1 3 rfl (Nat.le_of_ble_eq_true rfl) (by omega) dX5_takes_25 ?_
        refine r_iast (f := f) C hW (mF g o ad (M_refused) (up f c (M_kept ((926 * sl) + c))) (M_kept) (M_states) (M_place) (M_startFact) (M_node) (M_fact) (M_ahead) (M_inside) (M_entries) (M_caller) (M_following) (M_firstCaller) (M_lastCaller) (M_callers) (M_known) (M_loose) (M_stack) (M_high) (M_pairs) (M_told) (M_text) (M_typed) (M_orders) (M_written) (M_look)) 2 rfl (Nat.le_of_ble_eq_true rfl) (by omega) rfl dX5_takes_26 (fun H locs hW => ?_)
        refine r_iinc (v := c + 1) C [(2, .int (iI (c + 1))), (0, .ref (o)), (1, .int (iI (sl)))] dX5_takes_27 hl 2 rfl (by decide) (by omega) rfl (fun ls hl => ?_)
        refine r_goto C 2 dX5_takes_30 (by decide) ?_
        exact ih2 _ _ (by omega) (by omega) (by rw [hq, it_s]) _ _ ls hW (lv_sub hl [1, 2, 0] rfl)
  exact hloop2 926 0 _ (by omega) (by omega) rfl _ _ ls hW (lv_sub hl [1, 2, 0] rfl)
set_option maxHeartbeats 4000000 in
set_option maxRecDepth 100000 in
theorem c_X5_leavesState (l : Launch) (g : GG) (o : Nat) (ad : Nat → Nat) (M_refused : (Int → Int)) (M_now : (Int → Int)) (M_kept : (Int → Int)) (M_states : Int) (M_place : (Int → Int)) (M_startFact : (Int → Int)) (M_node : (Int → Int)) (M_fact : (Int → Int)) (M_ahead : (Int → Int)) (M_inside : (Int → Int)) (M_entries : Int) (M_caller : (Int → Int)) (M_following : (Int → Int)) (M_firstCaller : (Int → Int)) (M_lastCaller : (Int → Int)) (M_callers : Int) (M_known : Int) (M_loose : (Int → Int)) (M_stack : (Int → Int)) (M_high : Int) (M_pairs : (Int → Int)) (M_told : Int) (M_text : (Int → Int)) (M_typed : Int) (M_orders : (Int → Int)) (M_written : Int) (M_look : Int) (hM : mOk (M_refused, M_now, M_kept, M_states, M_place, M_startFact, M_node, M_fact, M_ahead, M_inside, M_entries, M_caller, M_following, M_firstCaller, M_lastCaller, M_callers, M_known, M_loose, M_stack, M_high, M_pairs, M_told, M_text, M_typed, M_orders, M_written, M_look)) : MW l g yX5_leavesState cX5_leavesState 2 none 0 0 [.ref (o)] (mF g o ad (M_refused) (M_now) (M_kept) (M_states) (M_place) (M_startFact) (M_node) (M_fact) (M_ahead) (M_inside) (M_entries) (M_caller) (M_following) (M_firstCaller) (M_lastCaller) (M_callers) (M_known) (M_loose) (M_stack) (M_high) (M_pairs) (M_told) (M_text) (M_typed) (M_orders) (M_written) (M_look)) (mF g o ad (m_refused (mLeave (M_refused, M_now, M_kept, M_states, M_place, M_startFact, M_node, M_fact, M_ahead, M_inside, M_entries, M_caller, M_following, M_firstCaller, M_lastCaller, M_callers, M_known, M_loose, M_stack, M_high, M_pairs, M_told, M_text, M_typed, M_orders, M_written, M_look))) (m_now (mLeave (M_refused, M_now, M_kept, M_states, M_place, M_startFact, M_node, M_fact, M_ahead, M_inside, M_entries, M_caller, M_following, M_firstCaller, M_lastCaller, M_callers, M_known, M_loose, M_stack, M_high, M_pairs, M_told, M_text, M_typed, M_orders, M_written, M_look))) (m_kept (mLeave (M_refused, M_now, M_kept, M_states, M_place, M_startFact, M_node, M_fact, M_ahead, M_inside, M_entries, M_caller, M_following, M_firstCaller, M_lastCaller, M_callers, M_known, M_loose, M_stack, M_high, M_pairs, M_told, M_text, M_typed, M_orders, M_written, M_look))) (m_states (mLeave (M_refused, M_now, M_kept, M_states, M_place, M_startFact, M_node, M_fact, M_ahead, M_inside, M_entries, M_caller, M_following, M_firstCaller, M_lastCaller, M_callers, M_known, M_loose, M_stack, M_high, M_pairs, M_told, M_text, M_typed, M_orders, M_written, M_look))) (m_place (mLeave (M_refused, M_now, M_kept, M_states, M_place, M_startFact, M_node, M_fact, M_ahead, M_inside, M_entries, M_caller, M_following, M_firstCaller, M_lastCaller, M_callers, M_known, M_loose, M_stack, M_high, M_pairs, M_told, M_text, M_typed, M_orders, M_written, M_look))) (m_startFact (mLeave (M_refused, M_now, M_kept, M_states, M_place, M_startFact, M_node, M_fact, M_ahead, M_inside, M_entries, M_caller, M_following, M_firstCaller, M_lastCaller, M_callers, M_known, M_loose, M_stack, M_high, M_pairs, M_told, M_text, M_typed, M_orders, M_written, M_look))) (m_node (mLeave (M_refused, M_now, M_kept, M_states, M_place, M_startFact, M_node, M_fact, M_ahead, M_inside, M_entries, M_caller, M_following, M_firstCaller, M_lastCaller, M_callers, M_known, M_loose, M_stack, M_high, M_pairs, M_told, M_text, M_typed, M_orders, M_written, M_look))) (m_fact (mLeave (M_refused, M_now, M_kept, M_states, M_place, M_startFact, M_node, M_fact, M_ahead, M_inside, M_entries, M_caller, M_following, M_firstCaller, M_lastCaller, M_callers, M_known, M_loose, M_stack, M_high, M_pairs, M_told, M_text, M_typed, M_orders, M_written, M_look))) (m_ahead (mLeave (M_refused, M_now, M_kept, M_states, M_place, M_startFact, M_node, M_fact, M_ahead, M_inside, M_entries, M_caller, M_following, M_firstCaller, M_lastCaller, M_callers, M_known, M_loose, M_stack, M_high, M_pairs, M_told, M_text, M_typed, M_orders, M_written, M_look))) (m_inside (mLeave (M_refused, M_now, M_kept, M_states, M_place, M_startFact, M_node, M_fact, M_ahead, M_inside, M_entries, M_caller, M_following, M_firstCaller, M_lastCaller, M_callers, M_known, M_loose, M_stack, M_high, M_pairs, M_told, M_text, M_typed, M_orders, M_written, M_look))) (m_entries (mLeave (M_refused, M_now, M_kept, M_states, M_place, M_startFact, M_node, M_fact, M_ahead, M_inside, M_entries, M_caller, M_following, M_firstCaller, M_lastCaller, M_callers, M_known, M_loose, M_stack, M_high, M_pairs, M_told, M_text, M_typed, M_orders, M_written, M_look))) (m_caller (mLeave (M_refused, M_now, M_kept, M_states, M_place, M_startFact, M_node, M_fact, M_ahead, M_inside, M_entries, M_caller, M_following, M_firstCaller, M_lastCaller, M_callers, M_known, M_loose, M_stack, M_high, M_pairs, M_told, M_text, M_typed, M_orders, M_written, M_look))) (m_following (mLeave (M_refused, M_now, M_kept, M_states, M_place, M_startFact, M_node, M_fact, M_ahead, M_inside, M_entries, M_caller, M_following, M_firstCaller, M_lastCaller, M_callers, M_known, M_loose, M_stack, M_high, M_pairs, M_told, M_text, M_typed, M_orders, M_written, M_look))) (m_firstCaller (mLeave (M_refused, M_now, M_kept, M_states, M_place, M_startFact, M_node, M_fact, M_ahead, M_inside, M_entries, M_caller, M_following, M_firstCaller, M_lastCaller, M_callers, M_known, M_loose, M_stack, M_high, M_pairs, M_told, M_text, M_typed, M_orders, M_written, M_look))) (m_lastCaller (mLeave (M_refused, M_now, M_kept, M_states, M_place, M_startFact, M_node, M_fact, M_ahead, M_inside, M_entries, M_caller, M_following, M_firstCaller, M_lastCaller, M_callers, M_known, M_loose, M_stack, M_high, M_pairs, M_told, M_text, M_typed, M_orders, M_written, M_look))) (m_callers (mLeave (M_refused, M_now, M_kept, M_states, M_place, M_startFact, M_node, M_fact, M_ahead, M_inside, M_entries, M_caller, M_following, M_firstCaller, M_lastCaller, M_callers, M_known, M_loose, M_stack, M_high, M_pairs, M_told, M_text, M_typed, M_orders, M_written, M_look))) (m_known (mLeave (M_refused, M_now, M_kept, M_states, M_place, M_startFact, M_node, M_fact, M_ahead, M_inside, M_entries, M_caller, M_following, M_firstCaller, M_lastCaller, M_callers, M_known, M_loose, M_stack, M_high, M_pairs, M_told, M_text, M_typed, M_orders, M_written, M_look))) (m_loose (mLeave (M_refused, M_now, M_kept, M_states, M_place, M_startFact, M_node, M_fact, M_ahead, M_inside, M_entries, M_caller, M_following, M_firstCaller, M_lastCaller, M_callers, M_known, M_loose, M_stack, M_high, M_pairs, M_told, M_text, M_typed, M_orders, M_written, M_look))) (m_stack (mLeave (M_refused, M_now, M_kept, M_states, M_place, M_startFact, M_node, M_fact, M_ahead, M_inside, M_entries, M_caller, M_following, M_firstCaller, M_lastCaller, M_callers, M_known, M_loose, M_stack, M_high, M_pairs, M_told, M_text, M_typed, M_orders, M_written, M_look))) (m_high (mLeave (M_refused, M_now, M_kept, M_states, M_place, M_startFact, M_node, M_fact, M_ahead, M_inside, M_entries, M_caller, M_following, M_firstCaller, M_lastCaller, M_callers, M_known, M_loose, M_stack, M_high, M_pairs, M_told, M_text, M_typed, M_orders, M_written, M_look))) (m_pairs (mLeave (M_refused, M_now, M_kept, M_states, M_place, M_startFact, M_node, M_fact, M_ahead, M_inside, M_entries, M_caller, M_following, M_firstCaller, M_lastCaller, M_callers, M_known, M_loose, M_stack, M_high, M_pairs, M_told, M_text, M_typed, M_orders, M_written, M_look))) (m_told (mLeave (M_refused, M_now, M_kept, M_states, M_place, M_startFact, M_node, M_fact, M_ahead, M_inside, M_entries, M_caller, M_following, M_firstCaller, M_lastCaller, M_callers, M_known, M_loose, M_stack, M_high, M_pairs, M_told, M_text, M_typed, M_orders, M_written, M_look))) (m_text (mLeave (M_refused, M_now, M_kept, M_states, M_place, M_startFact, M_node, M_fact, M_ahead, M_inside, M_entries, M_caller, M_following, M_firstCaller, M_lastCaller, M_callers, M_known, M_loose, M_stack, M_high, M_pairs, M_told, M_text, M_typed, M_orders, M_written, M_look))) (m_typed (mLeave (M_refused, M_now, M_kept, M_states, M_place, M_startFact, M_node, M_fact, M_ahead, M_inside, M_entries, M_caller, M_following, M_firstCaller, M_lastCaller, M_callers, M_known, M_loose, M_stack, M_high, M_pairs, M_told, M_text, M_typed, M_orders, M_written, M_look))) (m_orders (mLeave (M_refused, M_now, M_kept, M_states, M_place, M_startFact, M_node, M_fact, M_ahead, M_inside, M_entries, M_caller, M_following, M_firstCaller, M_lastCaller, M_callers, M_known, M_loose, M_stack, M_high, M_pairs, M_told, M_text, M_typed, M_orders, M_written, M_look))) (m_written (mLeave (M_refused, M_now, M_kept, M_states, M_place, M_startFact, M_node, M_fact, M_ahead, M_inside, M_entries, M_caller, M_following, M_firstCaller, M_lastCaller, M_callers, M_known, M_loose, M_stack, M_high, M_pairs, M_told, M_text, M_typed, M_orders, M_written, M_look))) (m_look (mLeave (M_refused, M_now, M_kept, M_states, M_place, M_startFact, M_node, M_fact, M_ahead, M_inside, M_entries, M_caller, M_following, M_firstCaller, M_lastCaller, M_callers, M_known, M_loose, M_stack, M_high, M_pairs, M_told, M_text, M_typed, M_orders, M_written, M_look)))) none := by
  refine MW_start (by decide) (Nat.le_of_ble_eq_true rfl) ?_
  intro zp ze zs zm zb zt zc A hAe C hrt hlk hW ls hl
  have hA : ∀ q, zs.heap.size ≤ q → A q := fun q h => by rw [hAe]; exact Or.inr h
  have hl : lv_has ls 2 [(0, .ref (o))] := hl
  have hM_refused : ∀ j : Int, 0 ≤ j → j < 3 → 0 ≤ M_refused j ∧ M_refused j ≤ 1000000 := hM.1
  have hM_states : 0 ≤ M_states ∧ M_states ≤ 5 := hM.2.1
  have hM_place : ∀ j : Int, 0 ≤ j → j < 1536 → 0 ≤ M_place j ∧ M_place j ≤ 1536 := hM.2.2.1
  have hM_startFact : ∀ j : Int, 0 ≤ j → j < 1536 → 0 ≤ M_startFact j ∧ M_startFact j ≤ 7 := hM.2.2.2.1
  have hM_node : ∀ j : Int, 0 ≤ j → j < 1536 → 0 ≤ M_node j ∧ M_node j ≤ 23 := hM.2.2.2.2.1
  have hM_fact : ∀ j : Int, 0 ≤ j → j < 1536 → 0 ≤ M_fact j ∧ M_fact j ≤ 7 := hM.2.2.2.2.2.1
  have hM_ahead : ∀ j : Int, 0 ≤ j → j < 1536 → -1 ≤ M_ahead j ∧ M_ahead j ≤ 1535 := hM.2.2.2.2.2.2.1
  have hM_inside : ∀ j : Int, 0 ≤ j → j < 1536 → -1 ≤ M_inside j ∧ M_inside j ≤ 1535 := hM.2.2.2.2.2.2.2.1
  have hM_entries : 0 ≤ M_entries ∧ M_entries ≤ 1536 := hM.2.2.2.2.2.2.2.2.1
  have hM_caller : ∀ j : Int, 0 ≤ j → j < 16384 → 0 ≤ M_caller j ∧ M_caller j ≤ 49151 := hM.2.2.2.2.2.2.2.2.2.1
  have hM_following : ∀ j : Int, 0 ≤ j → j < 16384 → -1 ≤ M_following j ∧ M_following j ≤ 16383 := hM.2.2.2.2.2.2.2.2.2.2.1
  have hM_firstCaller : ∀ j : Int, 0 ≤ j → j < 40 → -1 ≤ M_firstCaller j ∧ M_firstCaller j ≤ 16383 := hM.2.2.2.2.2.2.2.2.2.2.2.1
  have hM_lastCaller : ∀ j : Int, 0 ≤ j → j < 40 → -1 ≤ M_lastCaller j ∧ M_lastCaller j ≤ 16383 := hM.2.2.2.2.2.2.2.2.2.2.2.2.1
  have hM_callers : 0 ≤ M_callers ∧ M_callers ≤ 16384 := hM.2.2.2.2.2.2.2.2.2.2.2.2.2.1
  have hM_known : 0 ≤ M_known ∧ M_known ≤ 1 := hM.2.2.2.2.2.2.2.2.2.2.2.2.2.2.1
  have hM_loose : ∀ j : Int, 0 ≤ j → j < 24 → 0 ≤ M_loose j ∧ M_loose j ≤ 255 := hM.2.2.2.2.2.2.2.2.2.2.2.2.2.2.2.1
  have hM_stack : ∀ j : Int, 0 ≤ j → j < 8000 → 0 ≤ M_stack j ∧ M_stack j ≤ 6143 := hM.2.2.2.2.2.2.2.2.2.2.2.2.2.2.2.2.1
  have hM_high : 0 ≤ M_high ∧ M_high ≤ 8000 := hM.2.2.2.2.2.2.2.2.2.2.2.2.2.2.2.2.2.1
  have hM_pairs : ∀ j : Int, 0 ≤ j → j < 1000 → 0 ≤ M_pairs j ∧ M_pairs j ≤ 239 := hM.2.2.2.2.2.2.2.2.2.2.2.2.2.2.2.2.2.2.1
  have hM_told : 0 ≤ M_told ∧ M_told ≤ 1000 := hM.2.2.2.2.2.2.2.2.2.2.2.2.2.2.2.2.2.2.2.1
  have hM_text : ∀ j : Int, 0 ≤ j → j < 120 → 0 ≤ M_text j ∧ M_text j ≤ 127 := hM.2.2.2.2.2.2.2.2.2.2.2.2.2.2.2.2.2.2.2.2.1
  have hM_typed : 0 ≤ M_typed ∧ M_typed ≤ 120 := hM.2.2.2.2.2.2.2.2.2.2.2.2.2.2.2.2.2.2.2.2.2.1
  have hM_orders : ∀ j : Int, 0 ≤ j → j < 300 → 0 ≤ M_orders j ∧ M_orders j ≤ 999 := hM.2.2.2.2.2.2.2.2.2.2.2.2.2.2.2.2.2.2.2.2.2.2.1
  have hM_written : 0 ≤ M_written ∧ M_written ≤ 60 := hM.2.2.2.2.2.2.2.2.2.2.2.2.2.2.2.2.2.2.2.2.2.2.2.1
  have hM_look : 0 ≤ M_look ∧ M_look ≤ 120 := hM.2.2.2.2.2.2.2.2.2.2.2.2.2.2.2.2.2.2.2.2.2.2.2.2
  have hloop51 : ∀ (k51 : Nat) (c s1 : Int) (K K1 : Int → Int) (hkk : c + k51 = 926) (hc : 0 ≤ c) (hs1 : 0 ≤ s1 ∧ s1 ≤ 4) (hL : mLeave (M_refused, M_now, M_kept, M_states, M_place, M_startFact, M_node, M_fact, M_ahead, M_inside, M_entries, M_caller, M_following, M_firstCaller, M_lastCaller, M_callers, M_known, M_loose, M_stack, M_high, M_pairs, M_told, M_text, M_typed, M_orders, M_written, M_look) = ms_known (ms_states (ms_kept (M_refused, M_now, M_kept, M_states, M_place, M_startFact, M_node, M_fact, M_ahead, M_inside, M_entries, M_caller, M_following, M_firstCaller, M_lastCaller, M_callers, M_known, M_loose, M_stack, M_high, M_pairs, M_told, M_text, M_typed, M_orders, M_written, M_look) (nLv2 s1 K1)) (s1 + 1)) 0) (hq : nLv2 s1 K1 = it (fun c K => up K (926 * s1 + c) (K (4630 + c))) k51 c K) (H : Heap) (locs : List Loc) (ls : Array Slot), HW g A zs.heap (mF g o ad (M_refused) (M_now) K s1 (M_place) (M_startFact) (M_node) (M_fact) (M_ahead) (M_inside) (M_entries) (M_caller) (M_following) (M_firstCaller) (M_lastCaller) (M_callers) (M_known) (M_loose) (M_stack) (M_high) (M_pairs) (M_told) (M_text) (M_typed) (M_orders) (M_written) (M_look)) H locs → lv_has ls 2 [(0, .ref (o)), (1, .int (iI (c)))] → W zp l ze (rmm 0 0) zs zm (List.toArray [.ref (o)]) zb zt zc H locs 0 0 (MQ zb (QW g (mF g o ad (M_refused) (M_now) (M_kept) (M_states) (M_place) (M_startFact) (M_node) (M_fact) (M_ahead) (M_inside) (M_entries) (M_caller) (M_following) (M_firstCaller) (M_lastCaller) (M_callers) (M_known) (M_loose) (M_stack) (M_high) (M_pairs) (M_told) (M_text) (M_typed) (M_orders) (M_written) (M_look)) (mF g o ad (m_refused (mLeave (M_refused, M_now, M_kept, M_states, M_place, M_startFact, M_node, M_fact, M_ahead, M_inside, M_entries, M_caller, M_following, M_firstCaller, M_lastCaller, M_callers, M_known, M_loose, M_stack, M_high, M_pairs, M_told, M_text, M_typed, M_orders, M_written, M_look))) (m_now (mLeave (M_refused, M_now, M_kept, M_states, M_place, M_startFact, M_node, M_fact, M_ahead, M_inside, M_entries, M_caller, M_following, M_firstCaller, M_lastCaller, M_callers, M_known, M_loose, M_stack, M_high, M_pairs, M_told, M_text, M_typed, M_orders, M_written, M_look))) (m_kept (mLeave (M_refused, M_now, M_kept, M_states, M_place, M_startFact, M_node, M_fact, M_ahead, M_inside, M_entries, M_caller, M_following, M_firstCaller, M_lastCaller, M_callers, M_known, M_loose, M_stack, M_high, M_pairs, M_told, M_text, M_typed, M_orders, M_written, M_look))) (m_states (mLeave (M_refused, M_now, M_kept, M_states, M_place, M_startFact, M_node, M_fact, M_ahead, M_inside, M_entries, M_caller, M_following, M_firstCaller, M_lastCaller, M_callers, M_known, M_loose, M_stack, M_high, M_pairs, M_told, M_text, M_typed, M_orders, M_written, M_look))) (m_place (mLeave (M_refused, M_now, M_kept, M_states, M_place, M_startFact, M_node, M_fact, M_ahead, M_inside, M_entries, M_caller, M_following, M_firstCaller, M_lastCaller, M_callers, M_known, M_loose, M_stack, M_high, M_pairs, M_told, M_text, M_typed, M_orders, M_written, M_look))) (m_startFact (mLeave (M_refused, M_now, M_kept, M_states, M_place, M_startFact, M_node, M_fact, M_ahead, M_inside, M_entries, M_caller, M_following, M_firstCaller, M_lastCaller, M_callers, M_known, M_loose, M_stack, M_high, M_pairs, M_told, M_text, M_typed, M_orders, M_written, M_look))) (m_node (mLeave (M_refused, M_now, M_kept, M_states, M_place, M_startFact, M_node, M_fact, M_ahead, M_inside, M_entries, M_caller, M_following, M_firstCaller, M_lastCaller, M_callers, M_known, M_loose, M_stack, M_high, M_pairs, M_told, M_text, M_typed, M_orders, M_written, M_look))) (m_fact (mLeave (M_refused, M_now, M_kept, M_states, M_place, M_startFact, M_node, M_fact, M_ahead, M_inside, M_entries, M_caller, M_following, M_firstCaller, M_lastCaller, M_callers, M_known, M_loose, M_stack, M_high, M_pairs, M_told, M_text, M_typed, M_orders, M_written, M_look))) (m_ahead (mLeave (M_refused, M_now, M_kept, M_states, M_place, M_startFact, M_node, M_fact, M_ahead, M_inside, M_entries, M_caller, M_following, M_firstCaller, M_lastCaller, M_callers, M_known, M_loose, M_stack, M_high, M_pairs, M_told, M_text, M_typed, M_orders, M_written, M_look))) (m_inside (mLeave (M_refused, M_now, M_kept, M_states, M_place, M_startFact, M_node, M_fact, M_ahead, M_inside, M_entries, M_caller, M_following, M_firstCaller, M_lastCaller, M_callers, M_known, M_loose, M_stack, M_high, M_pairs, M_told, M_text, M_typed, M_orders, M_written, M_look))) (m_entries (mLeave (M_refused, M_now, M_kept, M_states, M_place, M_startFact, M_node, M_fact, M_ahead, M_inside, M_entries, M_caller, M_following, M_firstCaller, M_lastCaller, M_callers, M_known, M_loose, M_stack, M_high, M_pairs, M_told, M_text, M_typed, M_orders, M_written, M_look))) (m_caller (mLeave (M_refused, M_now, M_kept, M_states, M_place, M_startFact, M_node, M_fact, M_ahead, M_inside, M_entries, M_caller, M_following, M_firstCaller, M_lastCaller, M_callers, M_known, M_loose, M_stack, M_high, M_pairs, M_told, M_text, M_typed, M_orders, M_written, M_look))) (m_following (mLeave (M_refused, M_now, M_kept, M_states, M_place, M_startFact, M_node, M_fact, M_ahead, M_inside, M_entries, M_caller, M_following, M_firstCaller, M_lastCaller, M_callers, M_known, M_loose, M_stack, M_high, M_pairs, M_told, M_text, M_typed, M_orders, M_written, M_look))) (m_firstCaller (mLeave (M_refused, M_now, M_kept, M_states, M_place, M_startFact, M_node, M_fact, M_ahead, M_inside, M_entries, M_caller, M_following, M_firstCaller, M_lastCaller, M_callers, M_known, M_loose, M_stack, M_high, M_pairs, M_told, M_text, M_typed, M_orders, M_written, M_look))) (m_lastCaller (mLeave (M_refused, M_now, M_kept, M_states, M_place, M_startFact, M_node, M_fact, M_ahead, M_inside, M_entries, M_caller, M_following, M_firstCaller, M_lastCaller, M_callers, M_known, M_loose, M_stack, M_high, M_pairs, M_told, M_text, M_typed, M_orders, M_written, M_look))) (m_callers (mLeave (M_refused, M_now, M_kept, M_states, M_place, M_startFact, M_node, M_fact, M_ahead, M_inside, M_entries, M_caller, M_following, M_firstCaller, M_lastCaller, M_callers, M_known, M_loose, M_stack, M_high, M_pairs, M_told, M_text, M_typed, M_orders, M_written, M_look))) (m_known (mLeave (M_refused, M_now, M_kept, M_states, M_place, M_startFact, M_node, M_fact, M_ahead, M_inside, M_entries, M_caller, M_following, M_firstCaller, M_lastCaller, M_callers, M_known, M_loose, M_stack, M_high, M_pairs, M_told, M_text, M_typed, M_orders, M_written, M_look))) (m_loose (mLeave (M_refused, M_now, M_kept, M_states, M_place, M_startFact, M_node, M_fact, M_ahead, M_inside, M_entries, M_caller, M_following, M_firstCaller, M_lastCaller, M_callers, M_known, M_loose, M_stack, M_high, M_pairs, M_told, M_text, M_typed, M_orders, M_written, M_look))) (m_stack (mLeave (M_refused, M_now, M_kept, M_states, M_place, M_startFact, M_node, M_fact, M_ahead, M_inside, M_entries, M_caller, M_following, M_firstCaller, M_lastCaller, M_callers, M_known, M_loose, M_stack, M_high, M_pairs, M_told, M_text, M_typed, M_orders, M_written, M_look))) (m_high (mLeave (M_refused, M_now, M_kept, M_states, M_place, M_startFact, M_node, M_fact, M_ahead, M_inside, M_entries, M_caller, M_following, M_firstCaller, M_lastCaller, M_callers, M_known, M_loose, M_stack, M_high, M_pairs, M_told, M_text, M_typed, M_orders, M_written, M_look))) (m_pairs (mLeave (M_refused, M_now, M_kept, M_states, M_place, M_startFact, M_node, M_fact, M_ahead, M_inside, M_entries, M_caller, M_following, M_firstCaller, M_lastCaller, M_callers, M_known, M_loose, M_stack, M_high, M_pairs, M_told, M_text, M_typed, M_orders, M_written, M_look))) (m_told (mLeave (M_refused, M_now, M_kept, M_states, M_place, M_startFact, M_node, M_fact, M_ahead, M_inside, M_entries, M_caller, M_following, M_firstCaller, M_lastCaller, M_callers, M_known, M_loose, M_stack, M_high, M_pairs, M_told, M_text, M_typed, M_orders, M_written, M_look))) (m_text (mLeave (M_refused, M_now, M_kept, M_states, M_place, M_startFact, M_node, M_fact, M_ahead, M_inside, M_entries, M_caller, M_following, M_firstCaller, M_lastCaller, M_callers, M_known, M_loose, M_stack, M_high, M_pairs, M_told, M_text, M_typed, M_orders, M_written, M_look))) (m_typed (mLeave (M_refused, M_now, M_kept, M_states, M_place, M_startFact, M_node, M_fact, M_ahead, M_inside, M_entries, M_caller, M_following, M_firstCaller, M_lastCaller, M_callers, M_known, M_loose, M_stack, M_high, M_pairs, M_told, M_text, M_typed, M_orders, M_written, M_look))) (m_orders (mLeave (M_refused, M_now, M_kept, M_states, M_place, M_startFact, M_node, M_fact, M_ahead, M_inside, M_entries, M_caller, M_following, M_firstCaller, M_lastCaller, M_callers, M_known, M_loose, M_stack, M_high, M_pairs, M_told, M_text, M_typed, M_orders, M_written, M_look))) (m_written (mLeave (M_refused, M_now, M_kept, M_states, M_place, M_startFact, M_node, M_fact, M_ahead, M_inside, M_entries, M_caller, M_following, M_firstCaller, M_lastCaller, M_callers, M_known, M_loose, M_stack, M_high, M_pairs, M_told, M_text, M_typed, M_orders, M_written, M_look))) (m_look (mLeave (M_refused, M_now, M_kept, M_states, M_place, M_startFact, M_node, M_fact, M_ahead, M_inside, M_entries, M_caller, M_following, M_firstCaller, M_lastCaller, M_callers, M_known, M_loose, M_stack, M_high, M_pairs, M_told, M_text, M_typed, M_orders, M_written, M_look)))) zs.heap.size none) (List.toArray [.ref (o)]) zs 0 0 A) (F0 zm 51 ls []) := by
    intro k51
    induction k51 with
    | zero =>
      intro c s1 K K1 hkk hc hs1 hL hq H locs ls hW hl
      refine r_iload_n C dX5_leavesState_51 hl 1 rfl ?_
      refine r_sipush (z := 926) C dX5_leavesState_52 rfl ?_
      refine r_icmp_ge C 89 dX5_leavesState_55 (by decide) (by omega) (by omega) (fun hc1 => ?_) (fun hc1 => ?_)
      · skip
        refine r_aload_n C dX5_leavesState_89 hl 0 rfl ?_
        refine r_dup C rfl dX5_leavesState_90 ?_
        refine r_get (v := .int (iI (s1))) C f_X5_81 hW.1 0 rfl rfl dX5_leavesState_91 ?_
        refine r_iconst (z := 1) C dX5_leavesState_94 rfl ?_
        refine r_iadd C dX5_leavesState_95 ?_
        refine r_put C f_X5_81 fp_5_3 hW (mF g o ad (M_refused) (M_now) K (s1 + 1) (M_place) (M_startFact) (M_node) (M_fact) (M_ahead) (M_inside) (M_entries) (M_caller) (M_following) (M_firstCaller) (M_lastCaller) (M_callers) (M_known) (M_loose) (M_stack) (M_high) (M_pairs) (M_told) (M_text) (M_typed) (M_orders) (M_written) (M_look)) 0 rfl rfl rfl (Nat.le_of_ble_eq_true rfl) rfl dX5_leavesState_96 (fun H locs hW => ?_)
        refine r_aload_n C dX5_leavesState_99 hl 0 rfl ?_
        refine r_iconst (z := 0) C dX5_leavesState_100 rfl ?_
        refine r_put C f_X5_77 fp_5_16 hW (mF g o ad (M_refused) (M_now) K (s1 + 1) (M_place) (M_startFact) (M_node) (M_fact) (M_ahead) (M_inside) (M_entries) (M_caller) (M_following) (M_firstCaller) (M_lastCaller) (M_callers) 0 (M_loose) (M_stack) (M_high) (M_pairs) (M_told) (M_text) (M_typed) (M_orders) (M_written) (M_look)) 0 rfl (by decide) (by decide) (Nat.le_of_ble_eq_true rfl) rfl dX5_leavesState_101 (fun H locs hW => ?_)
        exact MW_vret C hAe hrt hlk hW dX5_leavesState_104 rfl (by rw [hL, hq]; rfl)
      · exact absurd hc1 (by omega)
    | succ k51 ih51 =>
      intro c s1 K K1 hkk hc hs1 hL hq H locs ls hW hl
      refine r_iload_n C dX5_leavesState_51 hl 1 rfl ?_
      refine r_sipush (z := 926) C dX5_leavesState_52 rfl ?_
      refine r_icmp_ge C 89 dX5_leavesState_55 (by decide) (by omega) (by omega) (fun hc2 => ?_) (fun hc2 => ?_)
      · exact absurd hc2 (by omega)
      · skip
        refine r_aload_n C dX5_leavesState_58 hl 0 rfl ?_
        refine r_get (v := .ref (ad 2)) C f_X5_16 hW.1 0 rfl rfl dX5_leavesState_59 ?_
        refine r_sipush (z := 926) C dX5_leavesState_62 rfl ?_
        refine r_aload_n C dX5_leavesState_65 hl 0 rfl ?_
        refine r_get (v := .int (iI (s1))) C f_X5_81 hW.1 0 rfl rfl dX5_leavesState_66 ?_
        refine r_imul C dX5_leavesState_69 ?_
        refine r_iload_n C dX5_leavesState_70 hl 1 rfl ?_
        refine r_iadd C dX5_leavesState_71 ?_
        refine r_aload_n C dX5_leavesState_72 hl 0 rfl ?_
        refine r_get (v := .ref (ad 2)) C f_X5_16 hW.1 0 rfl rfl dX5_leavesState_73 ?_
        refine r_sipush (z := 4630) C dX5_leavesState_76 rfl ?_
        refine r_iload_n C dX5_leavesState_79 hl 1 rfl ?_
        refine r_iadd C dX5_leavesState_80 ?_
        refine r_iald (f := K) C hW.1 3 rfl (Nat.le_of_ble_eq_true rfl) (by omega) dX5_leavesState_81 ?_
        refine r_iast (f := K) C hW (mF g o ad (M_refused) (M_now) (up K ((926 * s1) + c) (K (4630 + c))) s1 (M_place) (M_startFact) (M_node) (M_fact) (M_ahead) (M_inside) (M_entries) (M_caller) (M_following) (M_firstCaller) (M_lastCaller) (M_callers) (M_known) (M_loose) (M_stack) (M_high) (M_pairs) (M_told) (M_text) (M_typed) (M_orders) (M_written) (M_look)) 3 rfl (Nat.le_of_ble_eq_true rfl) (by omega) rfl dX5_leavesState_82 (fun H locs hW => ?_)
        refine r_iinc (v := c + 1) C [(1, .int (iI (c + 1))), (0, .ref (o))] dX5_leavesState_83 hl 1 rfl (by decide) (by omega) rfl (fun ls hl => ?_)
        refine r_goto C 51 dX5_leavesState_86 (by decide) ?_
        exact ih51 _ _ _ _ (by omega) (by omega) (by omega) hL (by rw [hq, it_s]) _ _ ls hW (lv_sub hl [1, 0] rfl)
  refine r_aload_n C dX5_leavesState_0 hl 0 rfl ?_
  refine r_get (v := .int (iI (M_states))) C f_X5_81 hW.1 0 rfl rfl dX5_leavesState_1 ?_
  refine r_iconst (z := 5) C dX5_leavesState_4 rfl ?_
  refine r_icmp_ne C 49 dX5_leavesState_5 (by decide) (by omega) (by omega) (fun hc3 => ?_) (fun hc3 => ?_)
  · skip
    refine r_iconst (z := 0) C dX5_leavesState_49 rfl ?_
    refine r_istore_n C [(1, .int (iI (0))), (0, .ref (o))] dX5_leavesState_50 hl (by decide) rfl (fun ls hl => ?_)
    exact hloop51 926 0 (M_states) (M_kept) (M_kept) (by omega) (by omega) (by omega) (by exact if_neg (by omega)) rfl _ _ ls hW (lv_sub hl [1, 0] rfl)
  · skip
    refine r_iconst (z := 0) C dX5_leavesState_8 rfl ?_
    refine r_istore_n C [(1, .int (iI (0))), (0, .ref (o))] dX5_leavesState_9 hl (by decide) rfl (fun ls hl => ?_)
    have hloop10 : ∀ (k10 : Nat) (c : Int) (K : Int → Int) (hkk : c + k10 = 3704) (hc : 0 ≤ c) (hq1 : nLv1 (M_kept) = it (fun c K => up K c (K (c + 926))) k10 c K) (H : Heap) (locs : List Loc) (ls : Array Slot), HW g A zs.heap (mF g o ad (M_refused) (M_now) K (M_states) (M_place) (M_startFact) (M_node) (M_fact) (M_ahead) (M_inside) (M_entries) (M_caller) (M_following) (M_firstCaller) (M_lastCaller) (M_callers) (M_known) (M_loose) (M_stack) (M_high) (M_pairs) (M_told) (M_text) (M_typed) (M_orders) (M_written) (M_look)) H locs → lv_has ls 2 [(0, .ref (o)), (1, .int (iI (c)))] → W zp l ze (rmm 0 0) zs zm (List.toArray [.ref (o)]) zb zt zc H locs 0 0 (MQ zb (QW g (mF g o ad (M_refused) (M_now) (M_kept) (M_states) (M_place) (M_startFact) (M_node) (M_fact) (M_ahead) (M_inside) (M_entries) (M_caller) (M_following) (M_firstCaller) (M_lastCaller) (M_callers) (M_known) (M_loose) (M_stack) (M_high) (M_pairs) (M_told) (M_text) (M_typed) (M_orders) (M_written) (M_look)) (mF g o ad (m_refused (mLeave (M_refused, M_now, M_kept, M_states, M_place, M_startFact, M_node, M_fact, M_ahead, M_inside, M_entries, M_caller, M_following, M_firstCaller, M_lastCaller, M_callers, M_known, M_loose, M_stack, M_high, M_pairs, M_told, M_text, M_typed, M_orders, M_written, M_look))) (m_now (mLeave (M_refused, M_now, M_kept, M_states, M_place, M_startFact, M_node, M_fact, M_ahead, M_inside, M_entries, M_caller, M_following, M_firstCaller, M_lastCaller, M_callers, M_known, M_loose, M_stack, M_high, M_pairs, M_told, M_text, M_typed, M_orders, M_written, M_look))) (m_kept (mLeave (M_refused, M_now, M_kept, M_states, M_place, M_startFact, M_node, M_fact, M_ahead, M_inside, M_entries, M_caller, M_following, M_firstCaller, M_lastCaller, M_callers, M_known, M_loose, M_stack, M_high, M_pairs, M_told, M_text, M_typed, M_orders, M_written, M_look))) (m_states (mLeave (M_refused, M_now, M_kept, M_states, M_place, M_startFact, M_node, M_fact, M_ahead, M_inside, M_entries, M_caller, M_following, M_firstCaller, M_lastCaller, M_callers, M_known, M_loose, M_stack, M_high, M_pairs, M_told, M_text, M_typed, M_orders, M_written, M_look))) (m_place (mLeave (M_refused, M_now, M_kept, M_states, M_place, M_startFact, M_node, M_fact, M_ahead, M_inside, M_entries, M_caller, M_following, M_firstCaller, M_lastCaller, M_callers, M_known, M_loose, M_stack, M_high, M_pairs, M_told, M_text, M_typed, M_orders, M_written, M_look))) (m_startFact (mLeave (M_refused, M_now, M_kept, M_states, M_place, M_startFact, M_node, M_fact, M_ahead, M_inside, M_entries, M_caller, M_following, M_firstCaller, M_lastCaller, M_callers, M_known, M_loose, M_stack, M_high, M_pairs, M_told, M_text, M_typed, M_orders, M_written, M_look))) (m_node (mLeave (M_refused, M_now, M_kept, M_states, M_place, M_startFact, M_node, M_fact, M_ahead, M_inside, M_entries, M_caller, M_following, M_firstCaller, M_lastCaller, M_callers, M_known, M_loose, M_stack, M_high, M_pairs, M_told, M_text, M_typed, M_orders, M_written, M_look))) (m_fact (mLeave (M_refused, M_now, M_kept, M_states, M_place, M_startFact, M_node, M_fact, M_ahead, M_inside, M_entries, M_caller, M_following, M_firstCaller, M_lastCaller, M_callers, M_known, M_loose, M_stack, M_high, M_pairs, M_told, M_text, M_typed, M_orders, M_written, M_look))) (m_ahead (mLeave (M_refused, M_now, M_kept, M_states, M_place, M_startFact, M_node, M_fact, M_ahead, M_inside, M_entries, M_caller, M_following, M_firstCaller, M_lastCaller, M_callers, M_known, M_loose, M_stack, M_high, M_pairs, M_told, M_text, M_typed, M_orders, M_written, M_look))) (m_inside (mLeave (M_refused, M_now, M_kept, M_states, M_place, M_startFact, M_node, M_fact, M_ahead, M_inside, M_entries, M_caller, M_following, M_firstCaller, M_lastCaller, M_callers, M_known, M_loose, M_stack, M_high, M_pairs, M_told, M_text, M_typed, M_orders, M_written, M_look))) (m_entries (mLeave (M_refused, M_now, M_kept, M_states, M_place, M_startFact, M_node, M_fact, M_ahead, M_inside, M_entries, M_caller, M_following, M_firstCaller, M_lastCaller, M_callers, M_known, M_loose, M_stack, M_high, M_pairs, M_told, M_text, M_typed, M_orders, M_written, M_look))) (m_caller (mLeave (M_refused, M_now, M_kept, M_states, M_place, M_startFact, M_node, M_fact, M_ahead, M_inside, M_entries, M_caller, M_following, M_firstCaller, M_lastCaller, M_callers, M_known, M_loose, M_stack, M_high, M_pairs, M_told, M_text, M_typed, M_orders, M_written, M_look))) (m_following (mLeave (M_refused, M_now, M_kept, M_states, M_place, M_startFact, M_node, M_fact, M_ahead, M_inside, M_entries, M_caller, M_following, M_firstCaller, M_lastCaller, M_callers, M_known, M_loose, M_stack, M_high, M_pairs, M_told, M_text, M_typed, M_orders, M_written, M_look))) (m_firstCaller (mLeave (M_refused, M_now, M_kept, M_states, M_place, M_startFact, M_node, M_fact, M_ahead, M_inside, M_entries, M_caller, M_following, M_firstCaller, M_lastCaller, M_callers, M_known, M_loose, M_stack, M_high, M_pairs, M_told, M_text, M_typed, M_orders, M_written, M_look))) (m_lastCaller (mLeave (M_refused, M_now, M_kept, M_states, M_place, M_startFact, M_node, M_fact, M_ahead, M_inside, M_entries, M_caller, M_following, M_firstCaller, M_lastCaller, M_callers, M_known, M_loose, M_stack, M_high, M_pairs, M_told, M_text, M_typed, M_orders, M_written, M_look))) (m_callers (mLeave (M_refused, M_now, M_kept, M_states, M_place, M_startFact, M_node, M_fact, M_ahead, M_inside, M_entries, M_caller, M_following, M_firstCaller, M_lastCaller, M_callers, M_known, M_loose, M_stack, M_high, M_pairs, M_told, M_text, M_typed, M_orders, M_written, M_look))) (m_known (mLeave (M_refused, M_now, M_kept, M_states, M_place, M_startFact, M_node, M_fact, M_ahead, M_inside, M_entries, M_caller, M_following, M_firstCaller, M_lastCaller, M_callers, M_known, M_loose, M_stack, M_high, M_pairs, M_told, M_text, M_typed, M_orders, M_written, M_look))) (m_loose (mLeave (M_refused, M_now, M_kept, M_states, M_place, M_startFact, M_node, M_fact, M_ahead, M_inside, M_entries, M_caller, M_following, M_firstCaller, M_lastCaller, M_callers, M_known, M_loose, M_stack, M_high, M_pairs, M_told, M_text, M_typed, M_orders, M_written, M_look))) (m_stack (mLeave (M_refused, M_now, M_kept, M_states, M_place, M_startFact, M_node, M_fact, M_ahead, M_inside, M_entries, M_caller, M_following, M_firstCaller, M_lastCaller, M_callers, M_known, M_loose, M_stack, M_high, M_pairs, M_told, M_text, M_typed, M_orders, M_written, M_look))) (m_high (mLeave (M_refused, M_now, M_kept, M_states, M_place, M_startFact, M_node, M_fact, M_ahead, M_inside, M_entries, M_caller, M_following, M_firstCaller, M_lastCaller, M_callers, M_known, M_loose, M_stack, M_high, M_pairs, M_told, M_text, M_typed, M_orders, M_written, M_look))) (m_pairs (mLeave (M_refused, M_now, M_kept, M_states, M_place, M_startFact, M_node, M_fact, M_ahead, M_inside, M_entries, M_caller, M_following, M_firstCaller, M_lastCaller, M_callers, M_known, M_loose, M_stack, M_high, M_pairs, M_told, M_text, M_typed, M_orders, M_written, M_look))) (m_told (mLeave (M_refused, M_now, M_kept, M_states, M_place, M_startFact, M_node, M_fact, M_ahead, M_inside, M_entries, M_caller, M_following, M_firstCaller, M_lastCaller, M_callers, M_known, M_loose, M_stack, M_high, M_pairs, M_told, M_text, M_typed, M_orders, M_written, M_look))) (m_text (mLeave (M_refused, M_now, M_kept, M_states, M_place, M_startFact, M_node, M_fact, M_ahead, M_inside, M_entries, M_caller, M_following, M_firstCaller, M_lastCaller, M_callers, M_known, M_loose, M_stack, M_high, M_pairs, M_told, M_text, M_typed, M_orders, M_written, M_look))) (m_typed (mLeave (M_refused, M_now, M_kept, M_states, M_place, M_startFact, M_node, M_fact, M_ahead, M_inside, M_entries, M_caller, M_following, M_firstCaller, M_lastCaller, M_callers, M_known, M_loose, M_stack, M_high, M_pairs, M_told, M_text, M_typed, M_orders, M_written, M_look))) (m_orders (mLeave (M_refused, M_now, M_kept, M_states, M_place, M_startFact, M_node, M_fact, M_ahead, M_inside, M_entries, M_caller, M_following, M_firstCaller, M_lastCaller, M_callers, M_known, M_loose, M_stack, M_high, M_pairs, M_told, M_text, M_typed, M_orders, M_written, M_look))) (m_written (mLeave (M_refused, M_now, M_kept, M_states, M_place, M_startFact, M_node, M_fact, M_ahead, M_inside, M_entries, M_caller, M_following, M_firstCaller, M_lastCaller, M_callers, M_known, M_loose, M_stack, M_high, M_pairs, M_told, M_text, M_typed, M_orders, M_written, M_look))) (m_look (mLeave (M_refused, M_now, M_kept, M_states, M_place, M_startFact, M_node, M_fact, M_ahead, M_inside, M_entries, M_caller, M_following, M_firstCaller, M_lastCaller, M_callers, M_known, M_loose, M_stack, M_high, M_pairs, M_told, M_text, M_typed, M_orders, M_written, M_look)))) zs.heap.size none) (List.toArray [.ref (o)]) zs 0 0 A) (F0 zm 10 ls []) := by
      intro k10
      induction k10 with
      | zero =>
        intro c K hkk hc hq1 H locs ls hW hl
        refine r_iload_n C dX5_leavesState_10 hl 1 rfl ?_
        refine r_sipush (z := 3704) C dX5_leavesState_11 rfl ?_
        refine r_icmp_ge C 39 dX5_leavesState_14 (by decide) (by omega) (by omega) (fun hc4 => ?_) (fun hc4 => ?_)
        · skip
          refine r_aload_n C dX5_leavesState_39 hl 0 rfl ?_
          refine r_dup C rfl dX5_leavesState_40 ?_
          refine r_get (v := .int (iI (M_states))) C f_X5_81 hW.1 0 rfl rfl dX5_leavesState_41 ?_
          refine r_iconst (z := 1) C dX5_leavesState_44 rfl ?_
          refine r_isub C dX5_leavesState_45 ?_
          refine r_put C f_X5_81 fp_5_3 hW (mF g o ad (M_refused) (M_now) K ((M_states) - 1) (M_place) (M_startFact) (M_node) (M_fact) (M_ahead) (M_inside) (M_entries) (M_caller) (M_following) (M_firstCaller) (M_lastCaller) (M_callers) (M_known) (M_loose) (M_stack) (M_high) (M_pairs) (M_told) (M_text) (M_typed) (M_orders) (M_written) (M_look)) 0 rfl rfl rfl (Nat.le_of_ble_eq_true rfl) rfl dX5_leavesState_46 (fun H locs hW => ?_)
          refine r_iconst (z := 0) C dX5_leavesState_49 rfl ?_
          refine r_istore_n C [(1, .int (iI (0))), (0, .ref (o))] dX5_leavesState_50 hl (by decide) rfl (fun ls hl => ?_)
          exact hloop51 926 0 ((M_states) - 1) K K (by omega) (by omega) (by omega) (by unfold mLeave; rw [if_pos (by omega), show nLv1 (M_kept) = K from hq1]; rw [show M_states - 1 = 4 by omega]; rfl) rfl _ _ ls hW (lv_sub hl [1, 0] rfl)
        · exact absurd hc4 (by omega)
      | succ k10 ih10 =>
        intro c K hkk hc hq1 H locs ls hW hl
        refine r_iload_n C dX5_leavesState_10 hl 1 rfl ?_
        refine r_sipush (z := 3704) C dX5_leavesState_11 rfl ?_
        refine r_icmp_ge C 39 dX5_leavesState_14 (by decide) (by omega) (by omega) (fun hc5 => ?_) (fun hc5 => ?_)
        · exact absurd hc5 (by omega)
        · skip
          refine r_aload_n C dX5_leavesState_17 hl 0 rfl ?_
          refine r_get (v := .ref (ad 2)) C f_X5_16 hW.1 0 rfl rfl dX5_leavesState_18 ?_
          refine r_iload_n C dX5_leavesState_21 hl 1 rfl ?_
          refine r_aload_n C dX5_leavesState_22 hl 0 rfl ?_
          refine r_get (v := .ref (ad 2)) C f_X5_16 hW.1 0 rfl rfl dX5_leavesState_23 ?_
          refine r_iload_n C dX5_leavesState_26 hl 1 rfl ?_
          refine r_sipush (z := 926) C dX5_leavesState_27 rfl ?_
          refine r_iadd C dX5_leavesState_30 ?_
          refine r_iald (f := K) C hW.1 3 rfl (Nat.le_of_ble_eq_true rfl) (by omega) dX5_leavesState_31 ?_
          refine r_iast (f := K) C hW (mF g o ad (M_refused) (M_now) (up K c (K (c + 926))) (M_states) (M_place) (M_startFact) (M_node) (M_fact) (M_ahead) (M_inside) (M_entries) (M_caller) (M_following) (M_firstCaller) (M_lastCaller) (M_callers) (M_known) (M_loose) (M_stack) (M_high) (M_pairs) (M_told) (M_text) (M_typed) (M_orders) (M_written) (M_look)) 3 rfl (Nat.le_of_ble_eq_true rfl) (by omega) rfl dX5_leavesState_32 (fun H locs hW => ?_)
          refine r_iinc (v := c + 1) C [(1, .int (iI (c + 1))), (0, .ref (o))] dX5_leavesState_33 hl 1 rfl (by decide) (by omega) rfl (fun ls hl => ?_)
          refine r_goto C 10 dX5_leavesState_36 (by decide) ?_
          exact ih10 _ _ (by omega) (by omega) (by rw [hq1, it_s]) _ _ ls hW (lv_sub hl [1, 0] rfl)
    exact hloop10 3704 0 _ (by omega) (by omega) rfl _ _ ls hW (lv_sub hl [1, 0] rfl)
set_option maxHeartbeats 4000000 in
set_option maxRecDepth 100000 in
theorem c_X5_isProc (l : Launch) (g : GG) (o : Nat) (ad : Nat → Nat) (M_refused : (Int → Int)) (M_now : (Int → Int)) (M_kept : (Int → Int)) (M_states : Int) (M_place : (Int → Int)) (M_startFact : (Int → Int)) (M_node : (Int → Int)) (M_fact : (Int → Int)) (M_ahead : (Int → Int)) (M_inside : (Int → Int)) (M_entries : Int) (M_caller : (Int → Int)) (M_following : (Int → Int)) (M_firstCaller : (Int → Int)) (M_lastCaller : (Int → Int)) (M_callers : Int) (M_known : Int) (M_loose : (Int → Int)) (M_stack : (Int → Int)) (M_high : Int) (M_pairs : (Int → Int)) (M_told : Int) (M_text : (Int → Int)) (M_typed : Int) (M_orders : (Int → Int)) (M_written : Int) (M_look : Int) (n : Int) (hN : nOk (M_now)) (h_n : rg n) : MR l g yX5_isProc cX5_isProc 2 (some .boolean) 1 22 [.ref (o), .int (iI (n))] (mF g o ad (M_refused) (M_now) (M_kept) (M_states) (M_place) (M_startFact) (M_node) (M_fact) (M_ahead) (M_inside) (M_entries) (M_caller) (M_following) (M_firstCaller) (M_lastCaller) (M_callers) (M_known) (M_loose) (M_stack) (M_high) (M_pairs) (M_told) (M_text) (M_typed) (M_orders) (M_written) (M_look)) (.int (iI (bI (0 ≤ n ∧ n ≤ M_now 0 - 1)))) := by
  refine MR_start (by decide) (Nat.le_of_ble_eq_true rfl) ?_
  intro zp ze zs zm zb zt zc C hrt hlk hH ls hl
  have hl : lv_has ls 2 [(0, .ref (o)), (1, .int (iI (n)))] := hl
  have hN_0 := hN.1
  have hN_1 := hN.2.1
  have hN_2 := hN.2.2.1
  have hN_3 := hN.2.2.2.1
  refine r_iload_n C dX5_isProc_0 hl 1 rfl ?_
  refine r_iconst (z := 0) C dX5_isProc_1 rfl ?_
  refine r_aload_n C dX5_isProc_2 hl 0 rfl ?_
  refine r_get (v := .ref (ad 1)) C f_X5_13 hH 0 rfl rfl dX5_isProc_3 ?_
  refine r_iconst (z := 0) C dX5_isProc_6 rfl ?_
  refine r_iald (f := M_now) C hH 2 rfl (Nat.le_of_ble_eq_true rfl) (by omega) dX5_isProc_7 ?_
  have hr1 := hN.1
  refine r_iconst (z := 1) C dX5_isProc_8 rfl ?_
  refine r_isub C dX5_isProc_9 ?_
  refine r_callRS (rest := []) (r := .int (iI (bI (0 ≤ n ∧ n ≤ ((M_now 0) - 1))))) C hl.1 (c_X5_in l g  n 0 ((M_now 0) - 1) (show rg n by omega) (show rg 0 by omega) (show rg ((M_now 0) - 1) by omega)) v_X5_89 rfl (fun k q h => by simp at h) (by decide) (by decide) (Nat.le_of_ble_eq_true rfl) dX5_isProc_10 rfl ?_
  exact MR_zret (d := 0 ≤ n ∧ n ≤ M_now 0 - 1) C hrt hlk dX5_isProc_13 (by first | rfl | (congr 1; done) | (congr 1; apply propext; omega)) rfl
set_option maxHeartbeats 4000000 in
set_option maxRecDepth 100000 in
theorem c_X5_isNode (l : Launch) (g : GG) (o : Nat) (ad : Nat → Nat) (M_refused : (Int → Int)) (M_now : (Int → Int)) (M_kept : (Int → Int)) (M_states : Int) (M_place : (Int → Int)) (M_startFact : (Int → Int)) (M_node : (Int → Int)) (M_fact : (Int → Int)) (M_ahead : (Int → Int)) (M_inside : (Int → Int)) (M_entries : Int) (M_caller : (Int → Int)) (M_following : (Int → Int)) (M_firstCaller : (Int → Int)) (M_lastCaller : (Int → Int)) (M_callers : Int) (M_known : Int) (M_loose : (Int → Int)) (M_stack : (Int → Int)) (M_high : Int) (M_pairs : (Int → Int)) (M_told : Int) (M_text : (Int → Int)) (M_typed : Int) (M_orders : (Int → Int)) (M_written : Int) (M_look : Int) (n : Int) (hN : nOk (M_now)) (h_n : rg n) : MR l g yX5_isNode cX5_isNode 2 (some .boolean) 1 22 [.ref (o), .int (iI (n))] (mF g o ad (M_refused) (M_now) (M_kept) (M_states) (M_place) (M_startFact) (M_node) (M_fact) (M_ahead) (M_inside) (M_entries) (M_caller) (M_following) (M_firstCaller) (M_lastCaller) (M_callers) (M_known) (M_loose) (M_stack) (M_high) (M_pairs) (M_told) (M_text) (M_typed) (M_orders) (M_written) (M_look)) (.int (iI (bI (0 ≤ n ∧ n ≤ M_now 1 - 1)))) := by
  refine MR_start (by decide) (Nat.le_of_ble_eq_true rfl) ?_
  intro zp ze zs zm zb zt zc C hrt hlk hH ls hl
  have hl : lv_has ls 2 [(0, .ref (o)), (1, .int (iI (n)))] := hl
  have hN_0 := hN.1
  have hN_1 := hN.2.1
  have hN_2 := hN.2.2.1
  have hN_3 := hN.2.2.2.1
  refine r_iload_n C dX5_isNode_0 hl 1 rfl ?_
  refine r_iconst (z := 0) C dX5_isNode_1 rfl ?_
  refine r_aload_n C dX5_isNode_2 hl 0 rfl ?_
  refine r_get (v := .ref (ad 1)) C f_X5_13 hH 0 rfl rfl dX5_isNode_3 ?_
  refine r_iconst (z := 1) C dX5_isNode_6 rfl ?_
  refine r_iald (f := M_now) C hH 2 rfl (Nat.le_of_ble_eq_true rfl) (by omega) dX5_isNode_7 ?_
  have hr1 := hN.2.1
  refine r_iconst (z := 1) C dX5_isNode_8 rfl ?_
  refine r_isub C dX5_isNode_9 ?_
  refine r_callRS (rest := []) (r := .int (iI (bI (0 ≤ n ∧ n ≤ ((M_now 1) - 1))))) C hl.1 (c_X5_in l g  n 0 ((M_now 1) - 1) (show rg n by omega) (show rg 0 by omega) (show rg ((M_now 1) - 1) by omega)) v_X5_89 rfl (fun k q h => by simp at h) (by decide) (by decide) (Nat.le_of_ble_eq_true rfl) dX5_isNode_10 rfl ?_
  exact MR_zret (d := 0 ≤ n ∧ n ≤ M_now 1 - 1) C hrt hlk dX5_isNode_13 (by first | rfl | (congr 1; done) | (congr 1; apply propext; omega)) rfl
set_option maxHeartbeats 4000000 in
set_option maxRecDepth 100000 in
theorem c_X5_isEdge (l : Launch) (g : GG) (o : Nat) (ad : Nat → Nat) (M_refused : (Int → Int)) (M_now : (Int → Int)) (M_kept : (Int → Int)) (M_states : Int) (M_place : (Int → Int)) (M_startFact : (Int → Int)) (M_node : (Int → Int)) (M_fact : (Int → Int)) (M_ahead : (Int → Int)) (M_inside : (Int → Int)) (M_entries : Int) (M_caller : (Int → Int)) (M_following : (Int → Int)) (M_firstCaller : (Int → Int)) (M_lastCaller : (Int → Int)) (M_callers : Int) (M_known : Int) (M_loose : (Int → Int)) (M_stack : (Int → Int)) (M_high : Int) (M_pairs : (Int → Int)) (M_told : Int) (M_text : (Int → Int)) (M_typed : Int) (M_orders : (Int → Int)) (M_written : Int) (M_look : Int) (n : Int) (hN : nOk (M_now)) (h_n : rg n) : MR l g yX5_isEdge cX5_isEdge 2 (some .boolean) 1 22 [.ref (o), .int (iI (n))] (mF g o ad (M_refused) (M_now) (M_kept) (M_states) (M_place) (M_startFact) (M_node) (M_fact) (M_ahead) (M_inside) (M_entries) (M_caller) (M_following) (M_firstCaller) (M_lastCaller) (M_callers) (M_known) (M_loose) (M_stack) (M_high) (M_pairs) (M_told) (M_text) (M_typed) (M_orders) (M_written) (M_look)) (.int (iI (bI (0 ≤ n ∧ n ≤ M_now 2 - 1)))) := by
  refine MR_start (by decide) (Nat.le_of_ble_eq_true rfl) ?_
  intro zp ze zs zm zb zt zc C hrt hlk hH ls hl
  have hl : lv_has ls 2 [(0, .ref (o)), (1, .int (iI (n)))] := hl
  have hN_0 := hN.1
  have hN_1 := hN.2.1
  have hN_2 := hN.2.2.1
  have hN_3 := hN.2.2.2.1
  refine r_iload_n C dX5_isEdge_0 hl 1 rfl ?_
  refine r_iconst (z := 0) C dX5_isEdge_1 rfl ?_
  refine r_aload_n C dX5_isEdge_2 hl 0 rfl ?_
  refine r_get (v := .ref (ad 1)) C f_X5_13 hH 0 rfl rfl dX5_isEdge_3 ?_
  refine r_iconst (z := 2) C dX5_isEdge_6 rfl ?_
  refine r_iald (f := M_now) C hH 2 rfl (Nat.le_of_ble_eq_true rfl) (by omega) dX5_isEdge_7 ?_
  have hr1 := hN.2.2.1
  refine r_iconst (z := 1) C dX5_isEdge_8 rfl ?_
  refine r_isub C dX5_isEdge_9 ?_
  refine r_callRS (rest := []) (r := .int (iI (bI (0 ≤ n ∧ n ≤ ((M_now 2) - 1))))) C hl.1 (c_X5_in l g  n 0 ((M_now 2) - 1) (show rg n by omega) (show rg 0 by omega) (show rg ((M_now 2) - 1) by omega)) v_X5_89 rfl (fun k q h => by simp at h) (by decide) (by decide) (Nat.le_of_ble_eq_true rfl) dX5_isEdge_10 rfl ?_
  exact MR_zret (d := 0 ≤ n ∧ n ≤ M_now 2 - 1) C hrt hlk dX5_isEdge_13 (by first | rfl | (congr 1; done) | (congr 1; apply propext; omega)) rfl
set_option maxHeartbeats 4000000 in
set_option maxRecDepth 100000 in
theorem c_X5_procOf (l : Launch) (g : GG) (o : Nat) (ad : Nat → Nat) (M_refused : (Int → Int)) (M_now : (Int → Int)) (M_kept : (Int → Int)) (M_states : Int) (M_place : (Int → Int)) (M_startFact : (Int → Int)) (M_node : (Int → Int)) (M_fact : (Int → Int)) (M_ahead : (Int → Int)) (M_inside : (Int → Int)) (M_entries : Int) (M_caller : (Int → Int)) (M_following : (Int → Int)) (M_firstCaller : (Int → Int)) (M_lastCaller : (Int → Int)) (M_callers : Int) (M_known : Int) (M_loose : (Int → Int)) (M_stack : (Int → Int)) (M_high : Int) (M_pairs : (Int → Int)) (M_told : Int) (M_text : (Int → Int)) (M_typed : Int) (M_orders : (Int → Int)) (M_written : Int) (M_look : Int) (n : Int) (hN : nOk (M_now)) (hn : 0 ≤ n ∧ n < 24) : MR l g yX5_procOf cX5_procOf 2 (some .int) 0 0 [.ref (o), .int (iI (n))] (mF g o ad (M_refused) (M_now) (M_kept) (M_states) (M_place) (M_startFact) (M_node) (M_fact) (M_ahead) (M_inside) (M_entries) (M_caller) (M_following) (M_firstCaller) (M_lastCaller) (M_callers) (M_known) (M_loose) (M_stack) (M_high) (M_pairs) (M_told) (M_text) (M_typed) (M_orders) (M_written) (M_look)) (.int (iI (M_now (14 + 2 * n)))) := by
  refine MR_start (by decide) (Nat.le_of_ble_eq_true rfl) ?_
  intro zp ze zs zm zb zt zc C hrt hlk hH ls hl
  have hl : lv_has ls 2 [(0, .ref (o)), (1, .int (iI (n)))] := hl
  have hN_0 := hN.1
  have hN_1 := hN.2.1
  have hN_2 := hN.2.2.1
  have hN_3 := hN.2.2.2.1
  refine r_aload_n C dX5_procOf_0 hl 0 rfl ?_
  refine r_get (v := .ref (ad 1)) C f_X5_13 hH 0 rfl rfl dX5_procOf_1 ?_
  refine r_bipush (z := 14) C dX5_procOf_4 rfl ?_
  refine r_iconst (z := 2) C dX5_procOf_6 rfl ?_
  refine r_iload_n C dX5_procOf_7 hl 1 rfl ?_
  refine r_imul C dX5_procOf_8 ?_
  refine r_iadd C dX5_procOf_9 ?_
  refine r_iald (f := M_now) C hH 2 rfl (Nat.le_of_ble_eq_true rfl) (by omega) dX5_procOf_10 ?_
  exact MR_iret C hrt hlk dX5_procOf_11 (iv rfl)
set_option maxHeartbeats 4000000 in
set_option maxRecDepth 100000 in
theorem c_X5_sortOf (l : Launch) (g : GG) (o : Nat) (ad : Nat → Nat) (M_refused : (Int → Int)) (M_now : (Int → Int)) (M_kept : (Int → Int)) (M_states : Int) (M_place : (Int → Int)) (M_startFact : (Int → Int)) (M_node : (Int → Int)) (M_fact : (Int → Int)) (M_ahead : (Int → Int)) (M_inside : (Int → Int)) (M_entries : Int) (M_caller : (Int → Int)) (M_following : (Int → Int)) (M_firstCaller : (Int → Int)) (M_lastCaller : (Int → Int)) (M_callers : Int) (M_known : Int) (M_loose : (Int → Int)) (M_stack : (Int → Int)) (M_high : Int) (M_pairs : (Int → Int)) (M_told : Int) (M_text : (Int → Int)) (M_typed : Int) (M_orders : (Int → Int)) (M_written : Int) (M_look : Int) (n : Int) (hN : nOk (M_now)) (hn : 0 ≤ n ∧ n < 24) : MR l g yX5_sortOf cX5_sortOf 2 (some .int) 0 0 [.ref (o), .int (iI (n))] (mF g o ad (M_refused) (M_now) (M_kept) (M_states) (M_place) (M_startFact) (M_node) (M_fact) (M_ahead) (M_inside) (M_entries) (M_caller) (M_following) (M_firstCaller) (M_lastCaller) (M_callers) (M_known) (M_loose) (M_stack) (M_high) (M_pairs) (M_told) (M_text) (M_typed) (M_orders) (M_written) (M_look)) (.int (iI (M_now (14 + 2 * n + 1)))) := by
  refine MR_start (by decide) (Nat.le_of_ble_eq_true rfl) ?_
  intro zp ze zs zm zb zt zc C hrt hlk hH ls hl
  have hl : lv_has ls 2 [(0, .ref (o)), (1, .int (iI (n)))] := hl
  have hN_0 := hN.1
  have hN_1 := hN.2.1
  have hN_2 := hN.2.2.1
  have hN_3 := hN.2.2.2.1
  refine r_aload_n C dX5_sortOf_0 hl 0 rfl ?_
  refine r_get (v := .ref (ad 1)) C f_X5_13 hH 0 rfl rfl dX5_sortOf_1 ?_
  refine r_bipush (z := 14) C dX5_sortOf_4 rfl ?_
  refine r_iconst (z := 2) C dX5_sortOf_6 rfl ?_
  refine r_iload_n C dX5_sortOf_7 hl 1 rfl ?_
  refine r_imul C dX5_sortOf_8 ?_
  refine r_iadd C dX5_sortOf_9 ?_
  refine r_iconst (z := 1) C dX5_sortOf_10 rfl ?_
  refine r_iadd C dX5_sortOf_11 ?_
  refine r_iald (f := M_now) C hH 2 rfl (Nat.le_of_ble_eq_true rfl) (by omega) dX5_sortOf_12 ?_
  exact MR_iret C hrt hlk dX5_sortOf_13 (iv rfl)
set_option maxHeartbeats 4000000 in
set_option maxRecDepth 100000 in
theorem c_X5_edgeOf (l : Launch) (g : GG) (o : Nat) (ad : Nat → Nat) (M_refused : (Int → Int)) (M_now : (Int → Int)) (M_kept : (Int → Int)) (M_states : Int) (M_place : (Int → Int)) (M_startFact : (Int → Int)) (M_node : (Int → Int)) (M_fact : (Int → Int)) (M_ahead : (Int → Int)) (M_inside : (Int → Int)) (M_entries : Int) (M_caller : (Int → Int)) (M_following : (Int → Int)) (M_firstCaller : (Int → Int)) (M_lastCaller : (Int → Int)) (M_callers : Int) (M_known : Int) (M_loose : (Int → Int)) (M_stack : (Int → Int)) (M_high : Int) (M_pairs : (Int → Int)) (M_told : Int) (M_text : (Int → Int)) (M_typed : Int) (M_orders : (Int → Int)) (M_written : Int) (M_look : Int) (e w : Int) (hN : nOk (M_now)) (he : 0 ≤ e ∧ e < 32) (hw : 0 ≤ w ∧ w < 3) : MR l g yX5_edgeOf cX5_edgeOf 3 (some .int) 0 0 [.ref (o), .int (iI (e)), .int (iI (w))] (mF g o ad (M_refused) (M_now) (M_kept) (M_states) (M_place) (M_startFact) (M_node) (M_fact) (M_ahead) (M_inside) (M_entries) (M_caller) (M_following) (M_firstCaller) (M_lastCaller) (M_callers) (M_known) (M_loose) (M_stack) (M_high) (M_pairs) (M_told) (M_text) (M_typed) (M_orders) (M_written) (M_look)) (.int (iI (M_now (62 + 27 * e + w)))) := by
  refine MR_start (by decide) (Nat.le_of_ble_eq_true rfl) ?_
  intro zp ze zs zm zb zt zc C hrt hlk hH ls hl
  have hl : lv_has ls 3 [(0, .ref (o)), (1, .int (iI (e))), (2, .int (iI (w)))] := hl
  have hN_0 := hN.1
  have hN_1 := hN.2.1
  have hN_2 := hN.2.2.1
  have hN_3 := hN.2.2.2.1
  refine r_aload_n C dX5_edgeOf_0 hl 0 rfl ?_
  refine r_get (v := .ref (ad 1)) C f_X5_13 hH 0 rfl rfl dX5_edgeOf_1 ?_
  refine r_bipush (z := 62) C dX5_edgeOf_4 rfl ?_
  refine r_bipush (z := 27) C dX5_edgeOf_6 rfl ?_
  refine r_iload_n C dX5_edgeOf_8 hl 1 rfl ?_
  refine r_imul C dX5_edgeOf_9 ?_
  refine r_iadd C dX5_edgeOf_10 ?_
  refine r_iload_n C dX5_edgeOf_11 hl 2 rfl ?_
  refine r_iadd C dX5_edgeOf_12 ?_
  refine r_iald (f := M_now) C hH 2 rfl (Nat.le_of_ble_eq_true rfl) (by omega) dX5_edgeOf_13 ?_
  exact MR_iret C hrt hlk dX5_edgeOf_14 (iv rfl)
set_option maxHeartbeats 4000000 in
set_option maxRecDepth 100000 in
theorem c_X5_flowOf (l : Launch) (g : GG) (o : Nat) (ad : Nat → Nat) (M_refused : (Int → Int)) (M_now : (Int → Int)) (M_kept : (Int → Int)) (M_states : Int) (M_place : (Int → Int)) (M_startFact : (Int → Int)) (M_node : (Int → Int)) (M_fact : (Int → Int)) (M_ahead : (Int → Int)) (M_inside : (Int → Int)) (M_entries : Int) (M_caller : (Int → Int)) (M_following : (Int → Int)) (M_firstCaller : (Int → Int)) (M_lastCaller : (Int → Int)) (M_callers : Int) (M_known : Int) (M_loose : (Int → Int)) (M_stack : (Int → Int)) (M_high : Int) (M_pairs : (Int → Int)) (M_told : Int) (M_text : (Int → Int)) (M_typed : Int) (M_orders : (Int → Int)) (M_written : Int) (M_look : Int) (e w a : Int) (hN : nOk (M_now)) (he : 0 ≤ e ∧ e < 32) (hw : 0 ≤ w ∧ w < 3) (ha : 0 ≤ a ∧ a < 8) : MR l g yX5_flowOf cX5_flowOf 4 (some .int) 0 0 [.ref (o), .int (iI (e)), .int (iI (w)), .int (iI (a))] (mF g o ad (M_refused) (M_now) (M_kept) (M_states) (M_place) (M_startFact) (M_node) (M_fact) (M_ahead) (M_inside) (M_entries) (M_caller) (M_following) (M_firstCaller) (M_lastCaller) (M_callers) (M_known) (M_loose) (M_stack) (M_high) (M_pairs) (M_told) (M_text) (M_typed) (M_orders) (M_written) (M_look)) (.int (iI (M_now (62 + 27 * e + 3 + 8 * w + a)))) := by
  refine MR_start (by decide) (Nat.le_of_ble_eq_true rfl) ?_
  intro zp ze zs zm zb zt zc C hrt hlk hH ls hl
  have hl : lv_has ls 4 [(0, .ref (o)), (1, .int (iI (e))), (2, .int (iI (w))), (3, .int (iI (a)))] := hl
  have hN_0 := hN.1
  have hN_1 := hN.2.1
  have hN_2 := hN.2.2.1
  have hN_3 := hN.2.2.2.1
  refine r_aload_n C dX5_flowOf_0 hl 0 rfl ?_
  refine r_get (v := .ref (ad 1)) C f_X5_13 hH 0 rfl rfl dX5_flowOf_1 ?_
  refine r_bipush (z := 62) C dX5_flowOf_4 rfl ?_
  refine r_bipush (z := 27) C dX5_flowOf_6 rfl ?_
  refine r_iload_n C dX5_flowOf_8 hl 1 rfl ?_
  refine r_imul C dX5_flowOf_9 ?_
  refine r_iadd C dX5_flowOf_10 ?_
  refine r_iconst (z := 3) C dX5_flowOf_11 rfl ?_
  refine r_iadd C dX5_flowOf_12 ?_
  refine r_bipush (z := 8) C dX5_flowOf_13 rfl ?_
  refine r_iload_n C dX5_flowOf_15 hl 2 rfl ?_
  refine r_imul C dX5_flowOf_16 ?_
  refine r_iadd C dX5_flowOf_17 ?_
  refine r_iload_n C dX5_flowOf_18 hl 3 rfl ?_
  refine r_iadd C dX5_flowOf_19 ?_
  refine r_iald (f := M_now) C hH 2 rfl (Nat.le_of_ble_eq_true rfl) (by omega) dX5_flowOf_20 ?_
  exact MR_iret C hrt hlk dX5_flowOf_21 (iv rfl)
set_option maxHeartbeats 4000000 in
set_option maxRecDepth 100000 in
theorem c_X5_addNode (l : Launch) (g : GG) (o : Nat) (ad : Nat → Nat) (M_refused : (Int → Int)) (M_now : (Int → Int)) (M_kept : (Int → Int)) (M_states : Int) (M_place : (Int → Int)) (M_startFact : (Int → Int)) (M_node : (Int → Int)) (M_fact : (Int → Int)) (M_ahead : (Int → Int)) (M_inside : (Int → Int)) (M_entries : Int) (M_caller : (Int → Int)) (M_following : (Int → Int)) (M_firstCaller : (Int → Int)) (M_lastCaller : (Int → Int)) (M_callers : Int) (M_known : Int) (M_loose : (Int → Int)) (M_stack : (Int → Int)) (M_high : Int) (M_pairs : (Int → Int)) (M_told : Int) (M_text : (Int → Int)) (M_typed : Int) (M_orders : (Int → Int)) (M_written : Int) (M_look : Int) (p s : Int) (hn : 0 ≤ M_now 1 ∧ M_now 1 < 24) : MW l g yX5_addNode cX5_addNode 4 (some .int) 0 0 [.ref (o), .int (iI (p)), .int (iI (s))] (mF g o ad (M_refused) (M_now) (M_kept) (M_states) (M_place) (M_startFact) (M_node) (M_fact) (M_ahead) (M_inside) (M_entries) (M_caller) (M_following) (M_firstCaller) (M_lastCaller) (M_callers) (M_known) (M_loose) (M_stack) (M_high) (M_pairs) (M_told) (M_text) (M_typed) (M_orders) (M_written) (M_look)) (mF g o ad (M_refused) (nNode (M_now) p s) (M_kept) (M_states) (M_place) (M_startFact) (M_node) (M_fact) (M_ahead) (M_inside) (M_entries) (M_caller) (M_following) (M_firstCaller) (M_lastCaller) (M_callers) (M_known) (M_loose) (M_stack) (M_high) (M_pairs) (M_told) (M_text) (M_typed) (M_orders) (M_written) (M_look)) (some (.int (iI (M_now 1)))) := by
  refine MW_start (by decide) (Nat.le_of_ble_eq_true rfl) ?_
  intro zp ze zs zm zb zt zc A hAe C hrt hlk hW ls hl
  have hA : ∀ q, zs.heap.size ≤ q → A q := fun q h => by rw [hAe]; exact Or.inr h
  have hl : lv_has ls 4 [(0, .ref (o)), (1, .int (iI (p))), (2, .int (iI (s)))] := hl
  refine r_aload_n C dX5_addNode_0 hl 0 rfl ?_
  refine r_get (v := .ref (ad 1)) C f_X5_13 hW.1 0 rfl rfl dX5_addNode_1 ?_
  refine r_iconst (z := 1) C dX5_addNode_4 rfl ?_
  refine r_iald (f := M_now) C hW.1 2 rfl (Nat.le_of_ble_eq_true rfl) (by omega) dX5_addNode_5 ?_
  refine r_istore_n C [(3, .int (iI (M_now 1))), (0, .ref (o)), (1, .int (iI (p))), (2, .int (iI (s)))] dX5_addNode_6 hl (by decide) rfl (fun ls hl => ?_)
  refine r_aload_n C dX5_addNode_7 hl 1 rfl ?_
  refine r_get (v := .ref (ad 1)) C f_X5_13 hW.1 0 rfl rfl dX5_addNode_8 ?_
  refine r_bipush (z := 14) C dX5_addNode_11 rfl ?_
  refine r_iconst (z := 2) C dX5_addNode_13 rfl ?_
  refine r_iload_n C dX5_addNode_14 hl 0 rfl ?_
  refine r_imul C dX5_addNode_15 ?_
  refine r_iadd C dX5_addNode_16 ?_
  refine r_iload_n C dX5_addNode_17 hl 2 rfl ?_
  refine r_iast (f := M_now) C hW (mF g o ad (M_refused) (up (M_now) (14 + (2 * (M_now 1))) p) (M_kept) (M_states) (M_place) (M_startFact) (M_node) (M_fact) (M_ahead) (M_inside) (M_entries) (M_caller) (M_following) (M_firstCaller) (M_lastCaller) (M_callers) (M_known) (M_loose) (M_stack) (M_high) (M_pairs) (M_told) (M_text) (M_typed) (M_orders) (M_written) (M_look)) 2 rfl (Nat.le_of_ble_eq_true rfl) (by omega) rfl dX5_addNode_18 (fun H locs hW => ?_)
  refine r_aload_n C dX5_addNode_19 hl 1 rfl ?_
  refine r_get (v := .ref (ad 1)) C f_X5_13 hW.1 0 rfl rfl dX5_addNode_20 ?_
  refine r_bipush (z := 14) C dX5_addNode_23 rfl ?_
  refine r_iconst (z := 2) C dX5_addNode_25 rfl ?_
  refine r_iload_n C dX5_addNode_26 hl 0 rfl ?_
  refine r_imul C dX5_addNode_27 ?_
  refine r_iadd C dX5_addNode_28 ?_
  refine r_iconst (z := 1) C dX5_addNode_29 rfl ?_
  refine r_iadd C dX5_addNode_30 ?_
  refine r_iload_n C dX5_addNode_31 hl 3 rfl ?_
  refine r_iast (f := up (M_now) (14 + (2 * (M_now 1))) p) C hW (mF g o ad (M_refused) (up (up (M_now) (14 + (2 * (M_now 1))) p) ((14 + (2 * (M_now 1))) + 1) s) (M_kept) (M_states) (M_place) (M_startFact) (M_node) (M_fact) (M_ahead) (M_inside) (M_entries) (M_caller) (M_following) (M_firstCaller) (M_lastCaller) (M_callers) (M_known) (M_loose) (M_stack) (M_high) (M_pairs) (M_told) (M_text) (M_typed) (M_orders) (M_written) (M_look)) 2 rfl (Nat.le_of_ble_eq_true rfl) (by omega) rfl dX5_addNode_32 (fun H locs hW => ?_)
  refine r_aload_n C dX5_addNode_33 hl 1 rfl ?_
  refine r_get (v := .ref (ad 1)) C f_X5_13 hW.1 0 rfl rfl dX5_addNode_34 ?_
  refine r_iconst (z := 1) C dX5_addNode_37 rfl ?_
  refine r_dup2 C rfl rfl dX5_addNode_38 ?_
  refine r_iald (f := up (up (M_now) (14 + (2 * (M_now 1))) p) ((14 + (2 * (M_now 1))) + 1) s) C hW.1 2 rfl (Nat.le_of_ble_eq_true rfl) (by omega) dX5_addNode_39 ?_
  refine r_iconst (z := 1) C dX5_addNode_40 rfl ?_
  refine r_iadd C dX5_addNode_41 ?_
  refine r_iast (f := up (up (M_now) (14 + (2 * (M_now 1))) p) ((14 + (2 * (M_now 1))) + 1) s) C hW (mF g o ad (M_refused) (up (up (up (M_now) (14 + (2 * (M_now 1))) p) ((14 + (2 * (M_now 1))) + 1) s) 1 (((up (up (M_now) (14 + (2 * (M_now 1))) p) ((14 + (2 * (M_now 1))) + 1) s) 1) + 1)) (M_kept) (M_states) (M_place) (M_startFact) (M_node) (M_fact) (M_ahead) (M_inside) (M_entries) (M_caller) (M_following) (M_firstCaller) (M_lastCaller) (M_callers) (M_known) (M_loose) (M_stack) (M_high) (M_pairs) (M_told) (M_text) (M_typed) (M_orders) (M_written) (M_look)) 2 rfl (Nat.le_of_ble_eq_true rfl) (by omega) rfl dX5_addNode_42 (fun H locs hW => ?_)
  refine r_iload_n C dX5_addNode_43 hl 0 rfl ?_
  exact MW_iret C hAe hrt hlk hW dX5_addNode_44 (iw rfl) rfl
set_option maxHeartbeats 4000000 in
set_option maxRecDepth 100000 in
theorem c_X5_addProc (l : Launch) (g : GG) (o : Nat) (ad : Nat → Nat) (M_refused : (Int → Int)) (M_now : (Int → Int)) (M_kept : (Int → Int)) (M_states : Int) (M_place : (Int → Int)) (M_startFact : (Int → Int)) (M_node : (Int → Int)) (M_fact : (Int → Int)) (M_ahead : (Int → Int)) (M_inside : (Int → Int)) (M_entries : Int) (M_caller : (Int → Int)) (M_following : (Int → Int)) (M_firstCaller : (Int → Int)) (M_lastCaller : (Int → Int)) (M_callers : Int) (M_known : Int) (M_loose : (Int → Int)) (M_stack : (Int → Int)) (M_high : Int) (M_pairs : (Int → Int)) (M_told : Int) (M_text : (Int → Int)) (M_typed : Int) (M_orders : (Int → Int)) (M_written : Int) (M_look : Int) (hN : nOk (M_now)) : MW l g yX5_addProc cX5_addProc 2 (some .int) 1 23 [.ref (o)] (mF g o ad (M_refused) (M_now) (M_kept) (M_states) (M_place) (M_startFact) (M_node) (M_fact) (M_ahead) (M_inside) (M_entries) (M_caller) (M_following) (M_firstCaller) (M_lastCaller) (M_callers) (M_known) (M_loose) (M_stack) (M_high) (M_pairs) (M_told) (M_text) (M_typed) (M_orders) (M_written) (M_look)) (mF g o ad (M_refused) ((nAddProc (M_now)).2) (M_kept) (M_states) (M_place) (M_startFact) (M_node) (M_fact) (M_ahead) (M_inside) (M_entries) (M_caller) (M_following) (M_firstCaller) (M_lastCaller) (M_callers) (M_known) (M_loose) (M_stack) (M_high) (M_pairs) (M_told) (M_text) (M_typed) (M_orders) (M_written) (M_look)) (some (.int (iI ((nAddProc (M_now)).1)))) := by
  refine MW_start (by decide) (Nat.le_of_ble_eq_true rfl) ?_
  intro zp ze zs zm zb zt zc A hAe C hrt hlk hW ls hl
  have hA : ∀ q, zs.heap.size ≤ q → A q := fun q h => by rw [hAe]; exact Or.inr h
  have hl : lv_has ls 2 [(0, .ref (o))] := hl
  have hN_0 := hN.1
  have hN_1 := hN.2.1
  have hN_2 := hN.2.2.1
  have hN_3 := hN.2.2.2.1
  refine r_aload_n C dX5_addProc_0 hl 0 rfl ?_
  refine r_get (v := .ref (ad 1)) C f_X5_13 hW.1 0 rfl rfl dX5_addProc_1 ?_
  refine r_iconst (z := 0) C dX5_addProc_4 rfl ?_
  refine r_iald (f := M_now) C hW.1 2 rfl (Nat.le_of_ble_eq_true rfl) (by omega) dX5_addProc_5 ?_
  have hr1 := hN.1
  refine r_iconst (z := 5) C dX5_addProc_6 rfl ?_
  refine r_icmp_eq C 23 dX5_addProc_7 (by decide) (by omega) (by omega) (fun hc2 => ?_) (fun hc2 => ?_)
  · skip
    refine r_bipush (z := -4) C dX5_addProc_23 rfl ?_
    have hE : nAddProc (M_now) = (-4, M_now) := by unfold nAddProc; (repeat' split) <;> first | rfl | (exfalso; omega)
    exact MW_iret C hAe hrt hlk hW dX5_addProc_25 (iw (by rw [hE])) (by rw [hE])
  · skip
    refine r_aload_n C dX5_addProc_10 hl 0 rfl ?_
    refine r_get (v := .ref (ad 1)) C f_X5_13 hW.1 0 rfl rfl dX5_addProc_11 ?_
    refine r_iconst (z := 1) C dX5_addProc_14 rfl ?_
    refine r_iald (f := M_now) C hW.1 2 rfl (Nat.le_of_ble_eq_true rfl) (by omega) dX5_addProc_15 ?_
    have hr3 := hN.2.1
    refine r_iconst (z := 2) C dX5_addProc_16 rfl ?_
    refine r_iadd C dX5_addProc_17 ?_
    refine r_bipush (z := 24) C dX5_addProc_18 rfl ?_
    refine r_icmp_le C 26 dX5_addProc_20 (by decide) (by omega) (by omega) (fun hc4 => ?_) (fun hc4 => ?_)
    · skip
      refine r_aload_n C dX5_addProc_26 hl 0 rfl ?_
      refine r_get (v := .ref (ad 1)) C f_X5_13 hW.1 0 rfl rfl dX5_addProc_27 ?_
      refine r_iconst (z := 0) C dX5_addProc_30 rfl ?_
      refine r_iald (f := M_now) C hW.1 2 rfl (Nat.le_of_ble_eq_true rfl) (by omega) dX5_addProc_31 ?_
      have hr5 := hN.1
      refine r_istore_n C [(1, .int (iI (M_now 0))), (0, .ref (o))] dX5_addProc_32 hl (by decide) rfl (fun ls hl => ?_)
      refine r_aload_n C dX5_addProc_33 hl 1 rfl ?_
      refine r_get (v := .ref (ad 1)) C f_X5_13 hW.1 0 rfl rfl dX5_addProc_34 ?_
      refine r_iconst (z := 4) C dX5_addProc_37 rfl ?_
      refine r_iconst (z := 2) C dX5_addProc_38 rfl ?_
      refine r_iload_n C dX5_addProc_39 hl 0 rfl ?_
      refine r_imul C dX5_addProc_40 ?_
      refine r_iadd C dX5_addProc_41 ?_
      refine r_aload_n C dX5_addProc_42 hl 1 rfl ?_
      refine r_iload_n C dX5_addProc_43 hl 0 rfl ?_
      refine r_iconst (z := 0) C dX5_addProc_44 rfl ?_
      refine r_callW (rest := [.int (iI (4 + (2 * (M_now 0)))), .ref (ad 1)]) (r := some (.int (iI ((M_now) 1)))) (wr := []) (ws2 := mF g o ad (M_refused) (nNode ((M_now)) (M_now 0) 0) (M_kept) (M_states) (M_place) (M_startFact) (M_node) (M_fact) (M_ahead) (M_inside) (M_entries) (M_caller) (M_following) (M_firstCaller) (M_lastCaller) (M_callers) (M_known) (M_loose) (M_stack) (M_high) (M_pairs) (M_told) (M_text) (M_typed) (M_orders) (M_written) (M_look)) (st1 := [.int (iI ((M_now) 1)), .int (iI (4 + (2 * (M_now 0)))), .ref (ad 1)]) C hl.1 hW hA (c_X5_addNode l g o ad (M_refused) (M_now) (M_kept) (M_states) (M_place) (M_startFact) (M_node) (M_fact) (M_ahead) (M_inside) (M_entries) (M_caller) (M_following) (M_firstCaller) (M_lastCaller) (M_callers) (M_known) (M_loose) (M_stack) (M_high) (M_pairs) (M_told) (M_text) (M_typed) (M_orders) (M_written) (M_look) (M_now 0) 0 (show 0 ≤ (M_now) 1 ∧ (M_now) 1 < 24 by omega)) v_X5_93 rfl [0, 1, 2, 3, 4, 5, 6, 7, 8, 9, 10, 11, 12, 13, 14, 15, 16, 17, 18] [] [0, 1, 2, 3, 4, 5, 6, 7, 8, 9, 10, 11, 12, 13, 14, 15, 16, 17, 18] rfl rfl (by decide) (by decide) rfl rfl 0 rfl rfl rfl (by decide) (by decide) (Nat.le_of_ble_eq_true rfl) dX5_addProc_45 rfl rfl (fun H locs hW => ?_)
      refine r_iast (f := nNode ((M_now)) (M_now 0) 0) C hW (mF g o ad (M_refused) (up (nNode ((M_now)) (M_now 0) 0) (4 + (2 * (M_now 0))) ((M_now) 1)) (M_kept) (M_states) (M_place) (M_startFact) (M_node) (M_fact) (M_ahead) (M_inside) (M_entries) (M_caller) (M_following) (M_firstCaller) (M_lastCaller) (M_callers) (M_known) (M_loose) (M_stack) (M_high) (M_pairs) (M_told) (M_text) (M_typed) (M_orders) (M_written) (M_look)) 2 rfl (Nat.le_of_ble_eq_true rfl) (by omega) rfl dX5_addProc_48 (fun H locs hW => ?_)
      refine r_aload_n C dX5_addProc_49 hl 1 rfl ?_
      refine r_get (v := .ref (ad 1)) C f_X5_13 hW.1 0 rfl rfl dX5_addProc_50 ?_
      refine r_iconst (z := 4) C dX5_addProc_53 rfl ?_
      refine r_iconst (z := 2) C dX5_addProc_54 rfl ?_
      refine r_iload_n C dX5_addProc_55 hl 0 rfl ?_
      refine r_imul C dX5_addProc_56 ?_
      refine r_iadd C dX5_addProc_57 ?_
      refine r_iconst (z := 1) C dX5_addProc_58 rfl ?_
      refine r_iadd C dX5_addProc_59 ?_
      refine r_aload_n C dX5_addProc_60 hl 1 rfl ?_
      refine r_iload_n C dX5_addProc_61 hl 0 rfl ?_
      refine r_iconst (z := 1) C dX5_addProc_62 rfl ?_
      refine r_callW (rest := [.int (iI ((4 + (2 * (M_now 0))) + 1)), .ref (ad 1)]) (r := some (.int (iI ((up (nNode ((M_now)) (M_now 0) 0) (4 + (2 * (M_now 0))) ((M_now) 1)) 1)))) (wr := []) (ws2 := mF g o ad (M_refused) (nNode ((up (nNode ((M_now)) (M_now 0) 0) (4 + (2 * (M_now 0))) ((M_now) 1))) (M_now 0) 1) (M_kept) (M_states) (M_place) (M_startFact) (M_node) (M_fact) (M_ahead) (M_inside) (M_entries) (M_caller) (M_following) (M_firstCaller) (M_lastCaller) (M_callers) (M_known) (M_loose) (M_stack) (M_high) (M_pairs) (M_told) (M_text) (M_typed) (M_orders) (M_written) (M_look)) (st1 := [.int (iI ((up (nNode ((M_now)) (M_now 0) 0) (4 + (2 * (M_now 0))) ((M_now) 1)) 1)), .int (iI ((4 + (2 * (M_now 0))) + 1)), .ref (ad 1)]) C hl.1 hW hA (c_X5_addNode l g o ad (M_refused) (up (nNode ((M_now)) (M_now 0) 0) (4 + (2 * (M_now 0))) ((M_now) 1)) (M_kept) (M_states) (M_place) (M_startFact) (M_node) (M_fact) (M_ahead) (M_inside) (M_entries) (M_caller) (M_following) (M_firstCaller) (M_lastCaller) (M_callers) (M_known) (M_loose) (M_stack) (M_high) (M_pairs) (M_told) (M_text) (M_typed) (M_orders) (M_written) (M_look) (M_now 0) 1 (show 0 ≤ nP1 (M_now) 1 ∧ nP1 (M_now) 1 < 24 by rw [nP1_1 _ (by omega) (by omega)]; omega)) v_X5_93 rfl [0, 1, 2, 3, 4, 5, 6, 7, 8, 9, 10, 11, 12, 13, 14, 15, 16, 17, 18] [] [0, 1, 2, 3, 4, 5, 6, 7, 8, 9, 10, 11, 12, 13, 14, 15, 16, 17, 18] rfl rfl (by decide) (by decide) rfl rfl 0 rfl rfl rfl (by decide) (by decide) (Nat.le_of_ble_eq_true rfl) dX5_addProc_63 rfl rfl (fun H locs hW => ?_)
      refine r_iast (f := nNode ((up (nNode ((M_now)) (M_now 0) 0) (4 + (2 * (M_now 0))) ((M_now) 1))) (M_now 0) 1) C hW (mF g o ad (M_refused) (up (nNode ((up (nNode ((M_now)) (M_now 0) 0) (4 + (2 * (M_now 0))) ((M_now) 1))) (M_now 0) 1) ((4 + (2 * (M_now 0))) + 1) ((up (nNode ((M_now)) (M_now 0) 0) (4 + (2 * (M_now 0))) ((M_now) 1)) 1)) (M_kept) (M_states) (M_place) (M_startFact) (M_node) (M_fact) (M_ahead) (M_inside) (M_entries) (M_caller) (M_following) (M_firstCaller) (M_lastCaller) (M_callers) (M_known) (M_loose) (M_stack) (M_high) (M_pairs) (M_told) (M_text) (M_typed) (M_orders) (M_written) (M_look)) 2 rfl (Nat.le_of_ble_eq_true rfl) (by omega) rfl dX5_addProc_66 (fun H locs hW => ?_)
      refine r_aload_n C dX5_addProc_67 hl 1 rfl ?_
      refine r_get (v := .ref (ad 1)) C f_X5_13 hW.1 0 rfl rfl dX5_addProc_68 ?_
      refine r_iconst (z := 0) C dX5_addProc_71 rfl ?_
      refine r_dup2 C rfl rfl dX5_addProc_72 ?_
      refine r_iald (f := up (nNode ((up (nNode ((M_now)) (M_now 0) 0) (4 + (2 * (M_now 0))) ((M_now) 1))) (M_now 0) 1) ((4 + (2 * (M_now 0))) + 1) ((up (nNode ((M_now)) (M_now 0) 0) (4 + (2 * (M_now 0))) ((M_now) 1)) 1)) C hW.1 2 rfl (Nat.le_of_ble_eq_true rfl) (by omega) dX5_addProc_73 ?_
      refine r_iconst (z := 1) C dX5_addProc_74 rfl ?_
      refine r_iadd C dX5_addProc_75 ?_
      refine r_iast (f := up (nNode ((up (nNode ((M_now)) (M_now 0) 0) (4 + (2 * (M_now 0))) ((M_now) 1))) (M_now 0) 1) ((4 + (2 * (M_now 0))) + 1) ((up (nNode ((M_now)) (M_now 0) 0) (4 + (2 * (M_now 0))) ((M_now) 1)) 1)) C hW (mF g o ad (M_refused) (up (up (nNode ((up (nNode ((M_now)) (M_now 0) 0) (4 + (2 * (M_now 0))) ((M_now) 1))) (M_now 0) 1) ((4 + (2 * (M_now 0))) + 1) ((up (nNode ((M_now)) (M_now 0) 0) (4 + (2 * (M_now 0))) ((M_now) 1)) 1)) 0 (((up (nNode ((up (nNode ((M_now)) (M_now 0) 0) (4 + (2 * (M_now 0))) ((M_now) 1))) (M_now 0) 1) ((4 + (2 * (M_now 0))) + 1) ((up (nNode ((M_now)) (M_now 0) 0) (4 + (2 * (M_now 0))) ((M_now) 1)) 1)) 0) + 1)) (M_kept) (M_states) (M_place) (M_startFact) (M_node) (M_fact) (M_ahead) (M_inside) (M_entries) (M_caller) (M_following) (M_firstCaller) (M_lastCaller) (M_callers) (M_known) (M_loose) (M_stack) (M_high) (M_pairs) (M_told) (M_text) (M_typed) (M_orders) (M_written) (M_look)) 2 rfl (Nat.le_of_ble_eq_true rfl) (by omega) rfl dX5_addProc_76 (fun H locs hW => ?_)
      refine r_iload_n C dX5_addProc_77 hl 0 rfl ?_
      have hE : nAddProc (M_now) = (M_now 0, up (up (nNode ((up (nNode ((M_now)) (M_now 0) 0) (4 + (2 * (M_now 0))) ((M_now) 1))) (M_now 0) 1) ((4 + (2 * (M_now 0))) + 1) ((up (nNode ((M_now)) (M_now 0) 0) (4 + (2 * (M_now 0))) ((M_now) 1)) 1)) 0 (((up (nNode ((up (nNode ((M_now)) (M_now 0) 0) (4 + (2 * (M_now 0))) ((M_now) 1))) (M_now 0) 1) ((4 + (2 * (M_now 0))) + 1) ((up (nNode ((M_now)) (M_now 0) 0) (4 + (2 * (M_now 0))) ((M_now) 1)) 1)) 0) + 1)) := by unfold nAddProc; (repeat' split) <;> first | rfl | (exfalso; omega)
      exact MW_iret C hAe hrt hlk hW dX5_addProc_78 (iw (by rw [hE])) (by rw [hE])
    · skip
      refine r_bipush (z := -4) C dX5_addProc_23 rfl ?_
      have hE : nAddProc (M_now) = (-4, M_now) := by unfold nAddProc; (repeat' split) <;> first | rfl | (exfalso; omega)
      exact MW_iret C hAe hrt hlk hW dX5_addProc_25 (iw (by rw [hE])) (by rw [hE])
set_option maxHeartbeats 4000000 in
set_option maxRecDepth 100000 in
theorem c_X5_addAny (l : Launch) (g : GG) (o : Nat) (ad : Nat → Nat) (M_refused : (Int → Int)) (M_now : (Int → Int)) (M_kept : (Int → Int)) (M_states : Int) (M_place : (Int → Int)) (M_startFact : (Int → Int)) (M_node : (Int → Int)) (M_fact : (Int → Int)) (M_ahead : (Int → Int)) (M_inside : (Int → Int)) (M_entries : Int) (M_caller : (Int → Int)) (M_following : (Int → Int)) (M_firstCaller : (Int → Int)) (M_lastCaller : (Int → Int)) (M_callers : Int) (M_known : Int) (M_loose : (Int → Int)) (M_stack : (Int → Int)) (M_high : Int) (M_pairs : (Int → Int)) (M_told : Int) (M_text : (Int → Int)) (M_typed : Int) (M_orders : (Int → Int)) (M_written : Int) (M_look : Int) (p : Int) (hN : nOk (M_now)) (h_p : rg p) : MW l g yX5_addAny cX5_addAny 2 (some .int) 2 43 [.ref (o), .int (iI (p))] (mF g o ad (M_refused) (M_now) (M_kept) (M_states) (M_place) (M_startFact) (M_node) (M_fact) (M_ahead) (M_inside) (M_entries) (M_caller) (M_following) (M_firstCaller) (M_lastCaller) (M_callers) (M_known) (M_loose) (M_stack) (M_high) (M_pairs) (M_told) (M_text) (M_typed) (M_orders) (M_written) (M_look)) (mF g o ad (M_refused) ((nAddAny (M_now) p).2) (M_kept) (M_states) (M_place) (M_startFact) (M_node) (M_fact) (M_ahead) (M_inside) (M_entries) (M_caller) (M_following) (M_firstCaller) (M_lastCaller) (M_callers) (M_known) (M_loose) (M_stack) (M_high) (M_pairs) (M_told) (M_text) (M_typed) (M_orders) (M_written) (M_look)) (some (.int (iI ((nAddAny (M_now) p).1)))) := by
  refine MW_start (by decide) (Nat.le_of_ble_eq_true rfl) ?_
  intro zp ze zs zm zb zt zc A hAe C hrt hlk hW ls hl
  have hA : ∀ q, zs.heap.size ≤ q → A q := fun q h => by rw [hAe]; exact Or.inr h
  have hl : lv_has ls 2 [(0, .ref (o)), (1, .int (iI (p)))] := hl
  have hN_0 := hN.1
  have hN_1 := hN.2.1
  have hN_2 := hN.2.2.1
  have hN_3 := hN.2.2.2.1
  refine r_aload_n C dX5_addAny_0 hl 0 rfl ?_
  refine r_iload_n C dX5_addAny_1 hl 1 rfl ?_
  refine r_callR (rest := []) (r := .int (iI (bI (0 ≤ p ∧ p ≤ (M_now) 0 - 1)))) C hl.1 (c_X5_isProc l g o ad (M_refused) (M_now) (M_kept) (M_states) (M_place) (M_startFact) (M_node) (M_fact) (M_ahead) (M_inside) (M_entries) (M_caller) (M_following) (M_firstCaller) (M_lastCaller) (M_callers) (M_known) (M_loose) (M_stack) (M_high) (M_pairs) (M_told) (M_text) (M_typed) (M_orders) (M_written) (M_look) p (by assumption) (show rg p by omega)) v_X5_97 rfl hW.1 0 rfl rfl rfl (by decide) (by decide) (Nat.le_of_ble_eq_true rfl) dX5_addAny_2 rfl ?_
  refine r_ifb_ne C 13 dX5_addAny_5 (by decide) (fun hc1 => ?_) (fun hc1 => ?_)
  · skip
    refine r_aload_n C dX5_addAny_13 hl 0 rfl ?_
    refine r_get (v := .ref (ad 1)) C f_X5_13 hW.1 0 rfl rfl dX5_addAny_14 ?_
    refine r_iconst (z := 1) C dX5_addAny_17 rfl ?_
    refine r_iald (f := M_now) C hW.1 2 rfl (Nat.le_of_ble_eq_true rfl) (by omega) dX5_addAny_18 ?_
    have hr2 := hN.2.1
    refine r_bipush (z := 24) C dX5_addAny_19 rfl ?_
    refine r_icmp_ne C 29 dX5_addAny_21 (by decide) (by omega) (by omega) (fun hc3 => ?_) (fun hc3 => ?_)
    · skip
      refine r_aload_n C dX5_addAny_29 hl 0 rfl ?_
      refine r_iload_n C dX5_addAny_30 hl 1 rfl ?_
      refine r_iconst (z := 2) C dX5_addAny_31 rfl ?_
      refine r_callW (rest := []) (r := some (.int (iI ((M_now) 1)))) (wr := []) (ws2 := mF g o ad (M_refused) (nNode ((M_now)) p 2) (M_kept) (M_states) (M_place) (M_startFact) (M_node) (M_fact) (M_ahead) (M_inside) (M_entries) (M_caller) (M_following) (M_firstCaller) (M_lastCaller) (M_callers) (M_known) (M_loose) (M_stack) (M_high) (M_pairs) (M_told) (M_text) (M_typed) (M_orders) (M_written) (M_look)) (st1 := [.int (iI ((M_now) 1))]) C hl.1 hW hA (c_X5_addNode l g o ad (M_refused) (M_now) (M_kept) (M_states) (M_place) (M_startFact) (M_node) (M_fact) (M_ahead) (M_inside) (M_entries) (M_caller) (M_following) (M_firstCaller) (M_lastCaller) (M_callers) (M_known) (M_loose) (M_stack) (M_high) (M_pairs) (M_told) (M_text) (M_typed) (M_orders) (M_written) (M_look) p 2 (show 0 ≤ (M_now) 1 ∧ (M_now) 1 < 24 by omega)) v_X5_93 rfl [0, 1, 2, 3, 4, 5, 6, 7, 8, 9, 10, 11, 12, 13, 14, 15, 16, 17, 18] [] [0, 1, 2, 3, 4, 5, 6, 7, 8, 9, 10, 11, 12, 13, 14, 15, 16, 17, 18] rfl rfl (by decide) (by decide) rfl rfl 0 rfl rfl rfl (by decide) (by decide) (Nat.le_of_ble_eq_true rfl) dX5_addAny_32 rfl rfl (fun H locs hW => ?_)
      have hE : nAddAny (M_now) p = ((M_now) 1, nNode ((M_now)) p 2) := by unfold nAddAny; (repeat' split) <;> first | rfl | (exfalso; omega)
      exact MW_iret C hAe hrt hlk hW dX5_addAny_35 (iw (by rw [hE])) (by rw [hE])
    · skip
      refine r_bipush (z := -4) C dX5_addAny_24 rfl ?_
      refine r_goto C 35 dX5_addAny_26 (by decide) ?_
      have hE : nAddAny (M_now) p = (-4, M_now) := by unfold nAddAny; (repeat' split) <;> first | rfl | (exfalso; omega)
      exact MW_iret C hAe hrt hlk hW dX5_addAny_35 (iw (by rw [hE])) (by rw [hE])
  · skip
    refine r_bipush (z := -2) C dX5_addAny_8 rfl ?_
    refine r_goto C 35 dX5_addAny_10 (by decide) ?_
    have hE : nAddAny (M_now) p = (-2, M_now) := by unfold nAddAny; (repeat' split) <;> first | rfl | (exfalso; omega)
    exact MW_iret C hAe hrt hlk hW dX5_addAny_35 (iw (by rw [hE])) (by rw [hE])
set_option maxHeartbeats 4000000 in
set_option maxRecDepth 100000 in
theorem c_X5_addEdge (l : Launch) (g : GG) (o : Nat) (ad : Nat → Nat) (M_refused : (Int → Int)) (M_now : (Int → Int)) (M_kept : (Int → Int)) (M_states : Int) (M_place : (Int → Int)) (M_startFact : (Int → Int)) (M_node : (Int → Int)) (M_fact : (Int → Int)) (M_ahead : (Int → Int)) (M_inside : (Int → Int)) (M_entries : Int) (M_caller : (Int → Int)) (M_following : (Int → Int)) (M_firstCaller : (Int → Int)) (M_lastCaller : (Int → Int)) (M_callers : Int) (M_known : Int) (M_loose : (Int → Int)) (M_stack : (Int → Int)) (M_high : Int) (M_pairs : (Int → Int)) (M_told : Int) (M_text : (Int → Int)) (M_typed : Int) (M_orders : (Int → Int)) (M_written : Int) (M_look : Int) (n k q : Int) (hN : nOk (M_now)) (h_n : rg n) (h_k : rg k) (h_q : rg q) : MW l g yX5_addEdge cX5_addEdge 6 (some .int) 2 43 [.ref (o), .int (iI (n)), .int (iI (k)), .int (iI (q))] (mF g o ad (M_refused) (M_now) (M_kept) (M_states) (M_place) (M_startFact) (M_node) (M_fact) (M_ahead) (M_inside) (M_entries) (M_caller) (M_following) (M_firstCaller) (M_lastCaller) (M_callers) (M_known) (M_loose) (M_stack) (M_high) (M_pairs) (M_told) (M_text) (M_typed) (M_orders) (M_written) (M_look)) (mF g o ad (M_refused) ((nAddEdge (M_now) n k q).2) (M_kept) (M_states) (M_place) (M_startFact) (M_node) (M_fact) (M_ahead) (M_inside) (M_entries) (M_caller) (M_following) (M_firstCaller) (M_lastCaller) (M_callers) (M_known) (M_loose) (M_stack) (M_high) (M_pairs) (M_told) (M_text) (M_typed) (M_orders) (M_written) (M_look)) (some (.int (iI ((nAddEdge (M_now) n k q).1)))) := by
  refine MW_start (by decide) (Nat.le_of_ble_eq_true rfl) ?_
  intro zp ze zs zm zb zt zc A hAe C hrt hlk hW ls hl
  have hA : ∀ q, zs.heap.size ≤ q → A q := fun q h => by rw [hAe]; exact Or.inr h
  have hl : lv_has ls 6 [(0, .ref (o)), (1, .int (iI (n))), (2, .int (iI (k))), (3, .int (iI (q)))] := hl
  have hN_0 := hN.1
  have hN_1 := hN.2.1
  have hN_2 := hN.2.2.1
  have hN_3 := hN.2.2.2.1
  refine r_aload_n C dX5_addEdge_0 hl 0 rfl ?_
  refine r_iload_n C dX5_addEdge_1 hl 1 rfl ?_
  refine r_callR (rest := []) (r := .int (iI (bI (0 ≤ n ∧ n ≤ (M_now) 1 - 1)))) C hl.1 (c_X5_isNode l g o ad (M_refused) (M_now) (M_kept) (M_states) (M_place) (M_startFact) (M_node) (M_fact) (M_ahead) (M_inside) (M_entries) (M_caller) (M_following) (M_firstCaller) (M_lastCaller) (M_callers) (M_known) (M_loose) (M_stack) (M_high) (M_pairs) (M_told) (M_text) (M_typed) (M_orders) (M_written) (M_look) n (by assumption) (show rg n by omega)) v_X5_101 rfl hW.1 0 rfl rfl rfl (by decide) (by decide) (Nat.le_of_ble_eq_true rfl) dX5_addEdge_2 rfl ?_
  refine r_ifb_eq C 29 dX5_addEdge_5 (by decide) (fun hc1 => ?_) (fun hc1 => ?_)
  · skip
    refine r_bipush (z := -2) C dX5_addEdge_29 rfl ?_
    have hE : nAddEdge (M_now) n k q = (-2, M_now) := if_neg (by omega)
    exact MW_iret C hAe hrt hlk hW dX5_addEdge_31 (iw (by rw [hE])) (by rw [hE])
  · skip
    refine r_aload_n C dX5_addEdge_8 hl 0 rfl ?_
    refine r_iload_n C dX5_addEdge_9 hl 2 rfl ?_
    refine r_callR (rest := []) (r := .int (iI (bI (0 ≤ k ∧ k ≤ (M_now) 1 - 1)))) C hl.1 (c_X5_isNode l g o ad (M_refused) (M_now) (M_kept) (M_states) (M_place) (M_startFact) (M_node) (M_fact) (M_ahead) (M_inside) (M_entries) (M_caller) (M_following) (M_firstCaller) (M_lastCaller) (M_callers) (M_known) (M_loose) (M_stack) (M_high) (M_pairs) (M_told) (M_text) (M_typed) (M_orders) (M_written) (M_look) k (by assumption) (show rg k by omega)) v_X5_101 rfl hW.1 0 rfl rfl rfl (by decide) (by decide) (Nat.le_of_ble_eq_true rfl) dX5_addEdge_10 rfl ?_
    refine r_ifb_eq C 29 dX5_addEdge_13 (by decide) (fun hc2 => ?_) (fun hc2 => ?_)
    · skip
      refine r_bipush (z := -2) C dX5_addEdge_29 rfl ?_
      have hE : nAddEdge (M_now) n k q = (-2, M_now) := if_neg (by omega)
      exact MW_iret C hAe hrt hlk hW dX5_addEdge_31 (iw (by rw [hE])) (by rw [hE])
    · skip
      refine r_iload_n C dX5_addEdge_16 hl 3 rfl ?_
      refine r_iconst (z := -1) C dX5_addEdge_17 rfl ?_
      refine r_icmp_eq C 32 dX5_addEdge_18 (by decide) (by omega) (by omega) (fun hc3 => ?_) (fun hc3 => ?_)
      · skip
        refine r_aload_n C dX5_addEdge_32 hl 0 rfl ?_
        refine r_iload_n C dX5_addEdge_33 hl 1 rfl ?_
        refine r_callR (rest := []) (r := .int (iI ((M_now) (14 + 2 * n)))) C hl.1 (c_X5_procOf l g o ad (M_refused) (M_now) (M_kept) (M_states) (M_place) (M_startFact) (M_node) (M_fact) (M_ahead) (M_inside) (M_entries) (M_caller) (M_following) (M_firstCaller) (M_lastCaller) (M_callers) (M_known) (M_loose) (M_stack) (M_high) (M_pairs) (M_told) (M_text) (M_typed) (M_orders) (M_written) (M_look) n (by assumption) (show 0 ≤ n ∧ n < 24 by omega)) v_X5_104 rfl hW.1 0 rfl rfl rfl (by decide) (by decide) (Nat.le_of_ble_eq_true rfl) dX5_addEdge_34 rfl ?_
        have hq4 := nProc_q ((M_now)) n (by assumption) (by omega)
        refine r_aload_n C dX5_addEdge_37 hl 0 rfl ?_
        refine r_iload_n C dX5_addEdge_38 hl 2 rfl ?_
        refine r_callR (rest := [.int (iI ((M_now) (14 + 2 * n)))]) (r := .int (iI ((M_now) (14 + 2 * k)))) C hl.1 (c_X5_procOf l g o ad (M_refused) (M_now) (M_kept) (M_states) (M_place) (M_startFact) (M_node) (M_fact) (M_ahead) (M_inside) (M_entries) (M_caller) (M_following) (M_firstCaller) (M_lastCaller) (M_callers) (M_known) (M_loose) (M_stack) (M_high) (M_pairs) (M_told) (M_text) (M_typed) (M_orders) (M_written) (M_look) k (by assumption) (show 0 ≤ k ∧ k < 24 by omega)) v_X5_104 rfl hW.1 0 rfl rfl rfl (by decide) (by decide) (Nat.le_of_ble_eq_true rfl) dX5_addEdge_39 rfl ?_
        have hq5 := nProc_q ((M_now)) k (by assumption) (by omega)
        refine r_icmp_ne C 62 dX5_addEdge_42 (by decide) (by omega) (by omega) (fun hc6 => ?_) (fun hc6 => ?_)
        · skip
          refine r_bipush (z := -2) C dX5_addEdge_62 rfl ?_
          have hE : nAddEdge (M_now) n k q = (-2, M_now) := if_neg (by omega)
          exact MW_iret C hAe hrt hlk hW dX5_addEdge_64 (iw (by rw [hE])) (by rw [hE])
        · skip
          refine r_aload_n C dX5_addEdge_45 hl 0 rfl ?_
          refine r_iload_n C dX5_addEdge_46 hl 1 rfl ?_
          refine r_callR (rest := []) (r := .int (iI ((M_now) (14 + 2 * n + 1)))) C hl.1 (c_X5_sortOf l g o ad (M_refused) (M_now) (M_kept) (M_states) (M_place) (M_startFact) (M_node) (M_fact) (M_ahead) (M_inside) (M_entries) (M_caller) (M_following) (M_firstCaller) (M_lastCaller) (M_callers) (M_known) (M_loose) (M_stack) (M_high) (M_pairs) (M_told) (M_text) (M_typed) (M_orders) (M_written) (M_look) n (by assumption) (show 0 ≤ n ∧ n < 24 by omega)) v_X5_108 rfl hW.1 0 rfl rfl rfl (by decide) (by decide) (Nat.le_of_ble_eq_true rfl) dX5_addEdge_47 rfl ?_
          have hq7 := nSort_q ((M_now)) n (by assumption) (by omega)
          refine r_iconst (z := 1) C dX5_addEdge_50 rfl ?_
          refine r_icmp_eq C 62 dX5_addEdge_51 (by decide) (by omega) (by omega) (fun hc8 => ?_) (fun hc8 => ?_)
          · skip
            refine r_bipush (z := -2) C dX5_addEdge_62 rfl ?_
            have hE : nAddEdge (M_now) n k q = (-2, M_now) := if_neg (by omega)
            exact MW_iret C hAe hrt hlk hW dX5_addEdge_64 (iw (by rw [hE])) (by rw [hE])
          · skip
            refine r_aload_n C dX5_addEdge_54 hl 0 rfl ?_
            refine r_iload_n C dX5_addEdge_55 hl 2 rfl ?_
            refine r_callR (rest := []) (r := .int (iI ((M_now) (14 + 2 * k + 1)))) C hl.1 (c_X5_sortOf l g o ad (M_refused) (M_now) (M_kept) (M_states) (M_place) (M_startFact) (M_node) (M_fact) (M_ahead) (M_inside) (M_entries) (M_caller) (M_following) (M_firstCaller) (M_lastCaller) (M_callers) (M_known) (M_loose) (M_stack) (M_high) (M_pairs) (M_told) (M_text) (M_typed) (M_orders) (M_written) (M_look) k (by assumption) (show 0 ≤ k ∧ k < 24 by omega)) v_X5_108 rfl hW.1 0 rfl rfl rfl (by decide) (by decide) (Nat.le_of_ble_eq_true rfl) dX5_addEdge_56 rfl ?_
            have hq9 := nSort_q ((M_now)) k (by assumption) (by omega)
            refine r_if_ne C 65 dX5_addEdge_59 (by decide) (by omega) (fun hc10 => ?_) (fun hc10 => ?_)
            · skip
              refine r_aload_n C dX5_addEdge_65 hl 0 rfl ?_
              refine r_get (v := .ref (ad 1)) C f_X5_13 hW.1 0 rfl rfl dX5_addEdge_66 ?_
              refine r_iconst (z := 2) C dX5_addEdge_69 rfl ?_
              refine r_iald (f := M_now) C hW.1 2 rfl (Nat.le_of_ble_eq_true rfl) (by omega) dX5_addEdge_70 ?_
              have hr11 := hN.2.2.1
              refine r_bipush (z := 32) C dX5_addEdge_71 rfl ?_
              refine r_icmp_ne C 79 dX5_addEdge_73 (by decide) (by omega) (by omega) (fun hc12 => ?_) (fun hc12 => ?_)
              · skip
                refine r_aload_n C dX5_addEdge_79 hl 0 rfl ?_
                refine r_get (v := .ref (ad 1)) C f_X5_13 hW.1 0 rfl rfl dX5_addEdge_80 ?_
                refine r_iconst (z := 2) C dX5_addEdge_83 rfl ?_
                refine r_iald (f := M_now) C hW.1 2 rfl (Nat.le_of_ble_eq_true rfl) (by omega) dX5_addEdge_84 ?_
                have hr13 := hN.2.2.1
                refine r_istore C [(4, .int (iI (M_now 2))), (0, .ref (o)), (1, .int (iI (n))), (2, .int (iI (k))), (3, .int (iI (q)))] dX5_addEdge_85 hl (by decide) rfl (fun ls hl => ?_)
                refine r_aload_n C dX5_addEdge_87 hl 1 rfl ?_
                refine r_get (v := .ref (ad 1)) C f_X5_13 hW.1 0 rfl rfl dX5_addEdge_88 ?_
                refine r_bipush (z := 62) C dX5_addEdge_91 rfl ?_
                refine r_bipush (z := 27) C dX5_addEdge_93 rfl ?_
                refine r_iload C dX5_addEdge_95 hl 0 rfl ?_
                refine r_imul C dX5_addEdge_97 ?_
                refine r_iadd C dX5_addEdge_98 ?_
                refine r_iload_n C dX5_addEdge_99 hl 2 rfl ?_
                refine r_iast (f := M_now) C hW (mF g o ad (M_refused) (up (M_now) (62 + (27 * (M_now 2))) n) (M_kept) (M_states) (M_place) (M_startFact) (M_node) (M_fact) (M_ahead) (M_inside) (M_entries) (M_caller) (M_following) (M_firstCaller) (M_lastCaller) (M_callers) (M_known) (M_loose) (M_stack) (M_high) (M_pairs) (M_told) (M_text) (M_typed) (M_orders) (M_written) (M_look)) 2 rfl (Nat.le_of_ble_eq_true rfl) (by omega) rfl dX5_addEdge_100 (fun H locs hW => ?_)
                refine r_aload_n C dX5_addEdge_101 hl 1 rfl ?_
                refine r_get (v := .ref (ad 1)) C f_X5_13 hW.1 0 rfl rfl dX5_addEdge_102 ?_
                refine r_bipush (z := 62) C dX5_addEdge_105 rfl ?_
                refine r_bipush (z := 27) C dX5_addEdge_107 rfl ?_
                refine r_iload C dX5_addEdge_109 hl 0 rfl ?_
                refine r_imul C dX5_addEdge_111 ?_
                refine r_iadd C dX5_addEdge_112 ?_
                refine r_iconst (z := 1) C dX5_addEdge_113 rfl ?_
                refine r_iadd C dX5_addEdge_114 ?_
                refine r_iload_n C dX5_addEdge_115 hl 3 rfl ?_
                refine r_iast (f := up (M_now) (62 + (27 * (M_now 2))) n) C hW (mF g o ad (M_refused) (up (up (M_now) (62 + (27 * (M_now 2))) n) ((62 + (27 * (M_now 2))) + 1) k) (M_kept) (M_states) (M_place) (M_startFact) (M_node) (M_fact) (M_ahead) (M_inside) (M_entries) (M_caller) (M_following) (M_firstCaller) (M_lastCaller) (M_callers) (M_known) (M_loose) (M_stack) (M_high) (M_pairs) (M_told) (M_text) (M_typed) (M_orders) (M_written) (M_look)) 2 rfl (Nat.le_of_ble_eq_true rfl) (by omega) rfl dX5_addEdge_116 (fun H locs hW => ?_)
                refine r_aload_n C dX5_addEdge_117 hl 1 rfl ?_
                refine r_get (v := .ref (ad 1)) C f_X5_13 hW.1 0 rfl rfl dX5_addEdge_118 ?_
                refine r_bipush (z := 62) C dX5_addEdge_121 rfl ?_
                refine r_bipush (z := 27) C dX5_addEdge_123 rfl ?_
                refine r_iload C dX5_addEdge_125 hl 0 rfl ?_
                refine r_imul C dX5_addEdge_127 ?_
                refine r_iadd C dX5_addEdge_128 ?_
                refine r_iconst (z := 2) C dX5_addEdge_129 rfl ?_
                refine r_iadd C dX5_addEdge_130 ?_
                refine r_iload_n C dX5_addEdge_131 hl 4 rfl ?_
                refine r_iast (f := up (up (M_now) (62 + (27 * (M_now 2))) n) ((62 + (27 * (M_now 2))) + 1) k) C hW (mF g o ad (M_refused) (up (up (up (M_now) (62 + (27 * (M_now 2))) n) ((62 + (27 * (M_now 2))) + 1) k) ((62 + (27 * (M_now 2))) + 2) q) (M_kept) (M_states) (M_place) (M_startFact) (M_node) (M_fact) (M_ahead) (M_inside) (M_entries) (M_caller) (M_following) (M_firstCaller) (M_lastCaller) (M_callers) (M_known) (M_loose) (M_stack) (M_high) (M_pairs) (M_told) (M_text) (M_typed) (M_orders) (M_written) (M_look)) 2 rfl (Nat.le_of_ble_eq_true rfl) (by omega) rfl dX5_addEdge_132 (fun H locs hW => ?_)
                refine r_iconst (z := 0) C dX5_addEdge_133 rfl ?_
                refine r_istore C [(5, .int (iI (0))), (4, .int (iI (M_now 2))), (0, .ref (o)), (1, .int (iI (n))), (2, .int (iI (k))), (3, .int (iI (q)))] dX5_addEdge_134 hl (by decide) rfl (fun ls hl => ?_)
                have hloop136 : ∀ (k136 : Nat) (j : Int) (f : Int → Int) (hkk : j + k136 = 24) (hj : 0 ≤ j) (hq2 : nE2 (M_now) n k q = it (fun k h => up h (62 + 27 * M_now 2 + 3 + k) (p2 (k % 8))) k136 j f) (H : Heap) (locs : List Loc) (ls : Array Slot), HW g A zs.heap (mF g o ad (M_refused) f (M_kept) (M_states) (M_place) (M_startFact) (M_node) (M_fact) (M_ahead) (M_inside) (M_entries) (M_caller) (M_following) (M_firstCaller) (M_lastCaller) (M_callers) (M_known) (M_loose) (M_stack) (M_high) (M_pairs) (M_told) (M_text) (M_typed) (M_orders) (M_written) (M_look)) H locs → lv_has ls 6 [(0, .ref (o)), (4, .int (iI (M_now 2))), (5, .int (iI (j)))] → W zp l ze (rmm 2 43) zs zm (List.toArray [.ref (o), .int (iI (n)), .int (iI (k)), .int (iI (q))]) zb zt zc H locs 0 0 (MQ zb (QW g (mF g o ad (M_refused) (M_now) (M_kept) (M_states) (M_place) (M_startFact) (M_node) (M_fact) (M_ahead) (M_inside) (M_entries) (M_caller) (M_following) (M_firstCaller) (M_lastCaller) (M_callers) (M_known) (M_loose) (M_stack) (M_high) (M_pairs) (M_told) (M_text) (M_typed) (M_orders) (M_written) (M_look)) (mF g o ad (M_refused) ((nAddEdge (M_now) n k q).2) (M_kept) (M_states) (M_place) (M_startFact) (M_node) (M_fact) (M_ahead) (M_inside) (M_entries) (M_caller) (M_following) (M_firstCaller) (M_lastCaller) (M_callers) (M_known) (M_loose) (M_stack) (M_high) (M_pairs) (M_told) (M_text) (M_typed) (M_orders) (M_written) (M_look)) zs.heap.size (some (.int (iI ((nAddEdge (M_now) n k q).1))))) (List.toArray [.ref (o), .int (iI (n)), .int (iI (k)), .int (iI (q))]) zs 0 0 A) (F0 zm 136 ls []) := by
                  intro k136
                  induction k136 with
                  | zero =>
                    intro j f hkk hj hq2 H locs ls hW hl
                    refine r_iload C dX5_addEdge_136 hl 2 rfl ?_
                    refine r_bipush (z := 24) C dX5_addEdge_138 rfl ?_
                    refine r_icmp_ge C 174 dX5_addEdge_140 (by decide) (by omega) (by omega) (fun hc14 => ?_) (fun hc14 => ?_)
                    · skip
                      refine r_aload_n C dX5_addEdge_174 hl 0 rfl ?_
                      refine r_get (v := .ref (ad 1)) C f_X5_13 hW.1 0 rfl rfl dX5_addEdge_175 ?_
                      refine r_iconst (z := 2) C dX5_addEdge_178 rfl ?_
                      refine r_dup2 C rfl rfl dX5_addEdge_179 ?_
                      refine r_iald (f := f) C hW.1 2 rfl (Nat.le_of_ble_eq_true rfl) (by omega) dX5_addEdge_180 ?_
                      refine r_iconst (z := 1) C dX5_addEdge_181 rfl ?_
                      refine r_iadd C dX5_addEdge_182 ?_
                      refine r_iast (f := f) C hW (mF g o ad (M_refused) (up f 2 ((f 2) + 1)) (M_kept) (M_states) (M_place) (M_startFact) (M_node) (M_fact) (M_ahead) (M_inside) (M_entries) (M_caller) (M_following) (M_firstCaller) (M_lastCaller) (M_callers) (M_known) (M_loose) (M_stack) (M_high) (M_pairs) (M_told) (M_text) (M_typed) (M_orders) (M_written) (M_look)) 2 rfl (Nat.le_of_ble_eq_true rfl) (by omega) rfl dX5_addEdge_183 (fun H locs hW => ?_)
                      refine r_iload C dX5_addEdge_184 hl 1 rfl ?_
                      have hE : nAddEdge (M_now) n k q = (M_now 2, up f 2 ((f 2) + 1)) := by unfold nAddEdge; rw [if_pos (by omega)]; exact (if_neg (by omega)).trans (by rw [hq2]; rfl)
                      exact MW_iret C hAe hrt hlk hW dX5_addEdge_186 (iw (by rw [hE])) (by rw [hE])
                    · exact absurd hc14 (by omega)
                  | succ k136 ih136 =>
                    intro j f hkk hj hq2 H locs ls hW hl
                    refine r_iload C dX5_addEdge_136 hl 2 rfl ?_
                    refine r_bipush (z := 24) C dX5_addEdge_138 rfl ?_
                    refine r_icmp_ge C 174 dX5_addEdge_140 (by decide) (by omega) (by omega) (fun hc15 => ?_) (fun hc15 => ?_)
                    · exact absurd hc15 (by omega)
                    · skip
                      refine r_aload_n C dX5_addEdge_143 hl 0 rfl ?_
                      refine r_get (v := .ref (ad 1)) C f_X5_13 hW.1 0 rfl rfl dX5_addEdge_144 ?_
                      refine r_bipush (z := 62) C dX5_addEdge_147 rfl ?_
                      refine r_bipush (z := 27) C dX5_addEdge_149 rfl ?_
                      refine r_iload C dX5_addEdge_151 hl 1 rfl ?_
                      refine r_imul C dX5_addEdge_153 ?_
                      refine r_iadd C dX5_addEdge_154 ?_
                      refine r_iconst (z := 3) C dX5_addEdge_155 rfl ?_
                      refine r_iadd C dX5_addEdge_156 ?_
                      refine r_iload C dX5_addEdge_157 hl 2 rfl ?_
                      refine r_iadd C dX5_addEdge_159 ?_
                      refine r_iconst (z := 1) C dX5_addEdge_160 rfl ?_
                      refine r_iload C dX5_addEdge_161 hl 2 rfl ?_
                      refine r_bipush (z := 8) C dX5_addEdge_163 rfl ?_
                      refine r_irem C (by omega) dX5_addEdge_165 ?_
                      refine r_ishl1 C (by omega) (by omega) dX5_addEdge_166 ?_
                      have hb16 := p2_0 (j % 8)
                      have hb17 : p2 (j % 8) < 256 := p2_8 (by omega)
                      refine r_iast (f := f) C hW (mF g o ad (M_refused) (up f (((62 + (27 * (M_now 2))) + 3) + j) (p2 (j % 8))) (M_kept) (M_states) (M_place) (M_startFact) (M_node) (M_fact) (M_ahead) (M_inside) (M_entries) (M_caller) (M_following) (M_firstCaller) (M_lastCaller) (M_callers) (M_known) (M_loose) (M_stack) (M_high) (M_pairs) (M_told) (M_text) (M_typed) (M_orders) (M_written) (M_look)) 2 rfl (Nat.le_of_ble_eq_true rfl) (by omega) rfl dX5_addEdge_167 (fun H locs hW => ?_)
                      refine r_iinc (v := j + 1) C [(5, .int (iI (j + 1))), (0, .ref (o)), (4, .int (iI (M_now 2)))] dX5_addEdge_168 hl 2 rfl (by decide) (by omega) rfl (fun ls hl => ?_)
                      refine r_goto C 136 dX5_addEdge_171 (by decide) ?_
                      exact ih136 _ _ (by omega) (by omega) (by rw [hq2, it_s]) _ _ ls hW (lv_sub hl [1, 2, 0] rfl)
                exact hloop136 24 0 _ (by omega) (by omega) rfl _ _ ls hW (lv_sub hl [2, 1, 0] rfl)
              · skip
                refine r_bipush (z := -4) C dX5_addEdge_76 rfl ?_
                have hE : nAddEdge (M_now) n k q = (-4, M_now) := by unfold nAddEdge; rw [if_pos (by omega)]; exact if_pos (by omega)
                exact MW_iret C hAe hrt hlk hW dX5_addEdge_78 (iw (by rw [hE])) (by rw [hE])
            · skip
              refine r_bipush (z := -2) C dX5_addEdge_62 rfl ?_
              have hE : nAddEdge (M_now) n k q = (-2, M_now) := if_neg (by omega)
              exact MW_iret C hAe hrt hlk hW dX5_addEdge_64 (iw (by rw [hE])) (by rw [hE])
      · skip
        refine r_aload_n C dX5_addEdge_21 hl 0 rfl ?_
        refine r_iload_n C dX5_addEdge_22 hl 3 rfl ?_
        refine r_callR (rest := []) (r := .int (iI (bI (0 ≤ q ∧ q ≤ (M_now) 0 - 1)))) C hl.1 (c_X5_isProc l g o ad (M_refused) (M_now) (M_kept) (M_states) (M_place) (M_startFact) (M_node) (M_fact) (M_ahead) (M_inside) (M_entries) (M_caller) (M_following) (M_firstCaller) (M_lastCaller) (M_callers) (M_known) (M_loose) (M_stack) (M_high) (M_pairs) (M_told) (M_text) (M_typed) (M_orders) (M_written) (M_look) q (by assumption) (show rg q by omega)) v_X5_97 rfl hW.1 0 rfl rfl rfl (by decide) (by decide) (Nat.le_of_ble_eq_true rfl) dX5_addEdge_23 rfl ?_
        refine r_ifb_ne C 32 dX5_addEdge_26 (by decide) (fun hc18 => ?_) (fun hc18 => ?_)
        · skip
          refine r_aload_n C dX5_addEdge_32 hl 0 rfl ?_
          refine r_iload_n C dX5_addEdge_33 hl 1 rfl ?_
          refine r_callR (rest := []) (r := .int (iI ((M_now) (14 + 2 * n)))) C hl.1 (c_X5_procOf l g o ad (M_refused) (M_now) (M_kept) (M_states) (M_place) (M_startFact) (M_node) (M_fact) (M_ahead) (M_inside) (M_entries) (M_caller) (M_following) (M_firstCaller) (M_lastCaller) (M_callers) (M_known) (M_loose) (M_stack) (M_high) (M_pairs) (M_told) (M_text) (M_typed) (M_orders) (M_written) (M_look) n (by assumption) (show 0 ≤ n ∧ n < 24 by omega)) v_X5_104 rfl hW.1 0 rfl rfl rfl (by decide) (by decide) (Nat.le_of_ble_eq_true rfl) dX5_addEdge_34 rfl ?_
          have hq19 := nProc_q ((M_now)) n (by assumption) (by omega)
          refine r_aload_n C dX5_addEdge_37 hl 0 rfl ?_
          refine r_iload_n C dX5_addEdge_38 hl 2 rfl ?_
          refine r_callR (rest := [.int (iI ((M_now) (14 + 2 * n)))]) (r := .int (iI ((M_now) (14 + 2 * k)))) C hl.1 (c_X5_procOf l g o ad (M_refused) (M_now) (M_kept) (M_states) (M_place) (M_startFact) (M_node) (M_fact) (M_ahead) (M_inside) (M_entries) (M_caller) (M_following) (M_firstCaller) (M_lastCaller) (M_callers) (M_known) (M_loose) (M_stack) (M_high) (M_pairs) (M_told) (M_text) (M_typed) (M_orders) (M_written) (M_look) k (by assumption) (show 0 ≤ k ∧ k < 24 by omega)) v_X5_104 rfl hW.1 0 rfl rfl rfl (by decide) (by decide) (Nat.le_of_ble_eq_true rfl) dX5_addEdge_39 rfl ?_
          have hq20 := nProc_q ((M_now)) k (by assumption) (by omega)
          refine r_icmp_ne C 62 dX5_addEdge_42 (by decide) (by omega) (by omega) (fun hc21 => ?_) (fun hc21 => ?_)
          · skip
            refine r_bipush (z := -2) C dX5_addEdge_62 rfl ?_
            have hE : nAddEdge (M_now) n k q = (-2, M_now) := if_neg (by omega)
            exact MW_iret C hAe hrt hlk hW dX5_addEdge_64 (iw (by rw [hE])) (by rw [hE])
          · skip
            refine r_aload_n C dX5_addEdge_45 hl 0 rfl ?_
            refine r_iload_n C dX5_addEdge_46 hl 1 rfl ?_
            refine r_callR (rest := []) (r := .int (iI ((M_now) (14 + 2 * n + 1)))) C hl.1 (c_X5_sortOf l g o ad (M_refused) (M_now) (M_kept) (M_states) (M_place) (M_startFact) (M_node) (M_fact) (M_ahead) (M_inside) (M_entries) (M_caller) (M_following) (M_firstCaller) (M_lastCaller) (M_callers) (M_known) (M_loose) (M_stack) (M_high) (M_pairs) (M_told) (M_text) (M_typed) (M_orders) (M_written) (M_look) n (by assumption) (show 0 ≤ n ∧ n < 24 by omega)) v_X5_108 rfl hW.1 0 rfl rfl rfl (by decide) (by decide) (Nat.le_of_ble_eq_true rfl) dX5_addEdge_47 rfl ?_
            have hq22 := nSort_q ((M_now)) n (by assumption) (by omega)
            refine r_iconst (z := 1) C dX5_addEdge_50 rfl ?_
            refine r_icmp_eq C 62 dX5_addEdge_51 (by decide) (by omega) (by omega) (fun hc23 => ?_) (fun hc23 => ?_)
            · skip
              refine r_bipush (z := -2) C dX5_addEdge_62 rfl ?_
              have hE : nAddEdge (M_now) n k q = (-2, M_now) := if_neg (by omega)
              exact MW_iret C hAe hrt hlk hW dX5_addEdge_64 (iw (by rw [hE])) (by rw [hE])
            · skip
              refine r_aload_n C dX5_addEdge_54 hl 0 rfl ?_
              refine r_iload_n C dX5_addEdge_55 hl 2 rfl ?_
              refine r_callR (rest := []) (r := .int (iI ((M_now) (14 + 2 * k + 1)))) C hl.1 (c_X5_sortOf l g o ad (M_refused) (M_now) (M_kept) (M_states) (M_place) (M_startFact) (M_node) (M_fact) (M_ahead) (M_inside) (M_entries) (M_caller) (M_following) (M_firstCaller) (M_lastCaller) (M_callers) (M_known) (M_loose) (M_stack) (M_high) (M_pairs) (M_told) (M_text) (M_typed) (M_orders) (M_written) (M_look) k (by assumption) (show 0 ≤ k ∧ k < 24 by omega)) v_X5_108 rfl hW.1 0 rfl rfl rfl (by decide) (by decide) (Nat.le_of_ble_eq_true rfl) dX5_addEdge_56 rfl ?_
              have hq24 := nSort_q ((M_now)) k (by assumption) (by omega)
              refine r_if_ne C 65 dX5_addEdge_59 (by decide) (by omega) (fun hc25 => ?_) (fun hc25 => ?_)
              · skip
                refine r_aload_n C dX5_addEdge_65 hl 0 rfl ?_
                refine r_get (v := .ref (ad 1)) C f_X5_13 hW.1 0 rfl rfl dX5_addEdge_66 ?_
                refine r_iconst (z := 2) C dX5_addEdge_69 rfl ?_
                refine r_iald (f := M_now) C hW.1 2 rfl (Nat.le_of_ble_eq_true rfl) (by omega) dX5_addEdge_70 ?_
                have hr26 := hN.2.2.1
                refine r_bipush (z := 32) C dX5_addEdge_71 rfl ?_
                refine r_icmp_ne C 79 dX5_addEdge_73 (by decide) (by omega) (by omega) (fun hc27 => ?_) (fun hc27 => ?_)
                · skip
                  refine r_aload_n C dX5_addEdge_79 hl 0 rfl ?_
                  refine r_get (v := .ref (ad 1)) C f_X5_13 hW.1 0 rfl rfl dX5_addEdge_80 ?_
                  refine r_iconst (z := 2) C dX5_addEdge_83 rfl ?_
                  refine r_iald (f := M_now) C hW.1 2 rfl (Nat.le_of_ble_eq_true rfl) (by omega) dX5_addEdge_84 ?_
                  have hr28 := hN.2.2.1
                  refine r_istore C [(4, .int (iI (M_now 2))), (0, .ref (o)), (1, .int (iI (n))), (2, .int (iI (k))), (3, .int (iI (q)))] dX5_addEdge_85 hl (by decide) rfl (fun ls hl => ?_)
                  refine r_aload_n C dX5_addEdge_87 hl 1 rfl ?_
                  refine r_get (v := .ref (ad 1)) C f_X5_13 hW.1 0 rfl rfl dX5_addEdge_88 ?_
                  refine r_bipush (z := 62) C dX5_addEdge_91 rfl ?_
                  refine r_bipush (z := 27) C dX5_addEdge_93 rfl ?_
                  refine r_iload C dX5_addEdge_95 hl 0 rfl ?_
                  refine r_imul C dX5_addEdge_97 ?_
                  refine r_iadd C dX5_addEdge_98 ?_
                  refine r_iload_n C dX5_addEdge_99 hl 2 rfl ?_
                  refine r_iast (f := M_now) C hW (mF g o ad (M_refused) (up (M_now) (62 + (27 * (M_now 2))) n) (M_kept) (M_states) (M_place) (M_startFact) (M_node) (M_fact) (M_ahead) (M_inside) (M_entries) (M_caller) (M_following) (M_firstCaller) (M_lastCaller) (M_callers) (M_known) (M_loose) (M_stack) (M_high) (M_pairs) (M_told) (M_text) (M_typed) (M_orders) (M_written) (M_look)) 2 rfl (Nat.le_of_ble_eq_true rfl) (by omega) rfl dX5_addEdge_100 (fun H locs hW => ?_)
                  refine r_aload_n C dX5_addEdge_101 hl 1 rfl ?_
                  refine r_get (v := .ref (ad 1)) C f_X5_13 hW.1 0 rfl rfl dX5_addEdge_102 ?_
                  refine r_bipush (z := 62) C dX5_addEdge_105 rfl ?_
                  refine r_bipush (z := 27) C dX5_addEdge_107 rfl ?_
                  refine r_iload C dX5_addEdge_109 hl 0 rfl ?_
                  refine r_imul C dX5_addEdge_111 ?_
                  refine r_iadd C dX5_addEdge_112 ?_
                  refine r_iconst (z := 1) C dX5_addEdge_113 rfl ?_
                  refine r_iadd C dX5_addEdge_114 ?_
                  refine r_iload_n C dX5_addEdge_115 hl 3 rfl ?_
                  refine r_iast (f := up (M_now) (62 + (27 * (M_now 2))) n) C hW (mF g o ad (M_refused) (up (up (M_now) (62 + (27 * (M_now 2))) n) ((62 + (27 * (M_now 2))) + 1) k) (M_kept) (M_states) (M_place) (M_startFact) (M_node) (M_fact) (M_ahead) (M_inside) (M_entries) (M_caller) (M_following) (M_firstCaller) (M_lastCaller) (M_callers) (M_known) (M_loose) (M_stack) (M_high) (M_pairs) (M_told) (M_text) (M_typed) (M_orders) (M_written) (M_look)) 2 rfl (Nat.le_of_ble_eq_true rfl) (by omega) rfl dX5_addEdge_116 (fun H locs hW => ?_)
                  refine r_aload_n C dX5_addEdge_117 hl 1 rfl ?_
                  refine r_get (v := .ref (ad 1)) C f_X5_13 hW.1 0 rfl rfl dX5_addEdge_118 ?_
                  refine r_bipush (z := 62) C dX5_addEdge_121 rfl ?_
                  refine r_bipush (z := 27) C dX5_addEdge_123 rfl ?_
                  refine r_iload C dX5_addEdge_125 hl 0 rfl ?_
                  refine r_imul C dX5_addEdge_127 ?_
                  refine r_iadd C dX5_addEdge_128 ?_
                  refine r_iconst (z := 2) C dX5_addEdge_129 rfl ?_
                  refine r_iadd C dX5_addEdge_130 ?_
                  refine r_iload_n C dX5_addEdge_131 hl 4 rfl ?_
                  refine r_iast (f := up (up (M_now) (62 + (27 * (M_now 2))) n) ((62 + (27 * (M_now 2))) + 1) k) C hW (mF g o ad (M_refused) (up (up (up (M_now) (62 + (27 * (M_now 2))) n) ((62 + (27 * (M_now 2))) + 1) k) ((62 + (27 * (M_now 2))) + 2) q) (M_kept) (M_states) (M_place) (M_startFact) (M_node) (M_fact) (M_ahead) (M_inside) (M_entries) (M_caller) (M_following) (M_firstCaller) (M_lastCaller) (M_callers) (M_known) (M_loose) (M_stack) (M_high) (M_pairs) (M_told) (M_text) (M_typed) (M_orders) (M_written) (M_look)) 2 rfl (Nat.le_of_ble_eq_true rfl) (by omega) rfl dX5_addEdge_132 (fun H locs hW => ?_)
                  refine r_iconst (z := 0) C dX5_addEdge_133 rfl ?_
                  refine r_istore C [(5, .int (iI (0))), (4, .int (iI (M_now 2))), (0, .ref (o)), (1, .int (iI (n))), (2, .int (iI (k))), (3, .int (iI (q)))] dX5_addEdge_134 hl (by decide) rfl (fun ls hl => ?_)
                  have hloop136 : ∀ (k136 : Nat) (j : Int) (f : Int → Int) (hkk : j + k136 = 24) (hj : 0 ≤ j) (hq2 : nE2 (M_now) n k q = it (fun k h => up h (62 + 27 * M_now 2 + 3 + k) (p2 (k % 8))) k136 j f) (H : Heap) (locs : List Loc) (ls : Array Slot), HW g A zs.heap (mF g o ad (M_refused) f (M_kept) (M_states) (M_place) (M_startFact) (M_node) (M_fact) (M_ahead) (M_inside) (M_entries) (M_caller) (M_following) (M_firstCaller) (M_lastCaller) (M_callers) (M_known) (M_loose) (M_stack) (M_high) (M_pairs) (M_told) (M_text) (M_typed) (M_orders) (M_written) (M_look)) H locs → lv_has ls 6 [(0, .ref (o)), (4, .int (iI (M_now 2))), (5, .int (iI (j)))] → W zp l ze (rmm 2 43) zs zm (List.toArray [.ref (o), .int (iI (n)), .int (iI (k)), .int (iI (q))]) zb zt zc H locs 0 0 (MQ zb (QW g (mF g o ad (M_refused) (M_now) (M_kept) (M_states) (M_place) (M_startFact) (M_node) (M_fact) (M_ahead) (M_inside) (M_entries) (M_caller) (M_following) (M_firstCaller) (M_lastCaller) (M_callers) (M_known) (M_loose) (M_stack) (M_high) (M_pairs) (M_told) (M_text) (M_typed) (M_orders) (M_written) (M_look)) (mF g o ad (M_refused) ((nAddEdge (M_now) n k q).2) (M_kept) (M_states) (M_place) (M_startFact) (M_node) (M_fact) (M_ahead) (M_inside) (M_entries) (M_caller) (M_following) (M_firstCaller) (M_lastCaller) (M_callers) (M_known) (M_loose) (M_stack) (M_high) (M_pairs) (M_told) (M_text) (M_typed) (M_orders) (M_written) (M_look)) zs.heap.size (some (.int (iI ((nAddEdge (M_now) n k q).1))))) (List.toArray [.ref (o), .int (iI (n)), .int (iI (k)), .int (iI (q))]) zs 0 0 A) (F0 zm 136 ls []) := by
                    intro k136
                    induction k136 with
                    | zero =>
                      intro j f hkk hj hq2 H locs ls hW hl
                      refine r_iload C dX5_addEdge_136 hl 2 rfl ?_
                      refine r_bipush (z := 24) C dX5_addEdge_138 rfl ?_
                      refine r_icmp_ge C 174 dX5_addEdge_140 (by decide) (by omega) (by omega) (fun hc29 => ?_) (fun hc29 => ?_)
                      · skip
                        refine r_aload_n C dX5_addEdge_174 hl 0 rfl ?_
                        refine r_get (v := .ref (ad 1)) C f_X5_13 hW.1 0 rfl rfl dX5_addEdge_175 ?_
                        refine r_iconst (z := 2) C dX5_addEdge_178 rfl ?_
                        refine r_dup2 C rfl rfl dX5_addEdge_179 ?_
                        refine r_iald (f := f) C hW.1 2 rfl (Nat.le_of_ble_eq_true rfl) (by omega) dX5_addEdge_180 ?_
                        refine r_iconst (z := 1) C dX5_addEdge_181 rfl ?_
                        refine r_iadd C dX5_addEdge_182 ?_
                        refine r_iast (f := f) C hW (mF g o ad (M_refused) (up f 2 ((f 2) + 1)) (M_kept) (M_states) (M_place) (M_startFact) (M_node) (M_fact) (M_ahead) (M_inside) (M_entries) (M_caller) (M_following) (M_firstCaller) (M_lastCaller) (M_callers) (M_known) (M_loose) (M_stack) (M_high) (M_pairs) (M_told) (M_text) (M_typed) (M_orders) (M_written) (M_look)) 2 rfl (Nat.le_of_ble_eq_true rfl) (by omega) rfl dX5_addEdge_183 (fun H locs hW => ?_)
                        refine r_iload C dX5_addEdge_184 hl 1 rfl ?_
                        have hE : nAddEdge (M_now) n k q = (M_now 2, up f 2 ((f 2) + 1)) := by unfold nAddEdge; rw [if_pos (by omega)]; exact (if_neg (by omega)).trans (by rw [hq2]; rfl)
                        exact MW_iret C hAe hrt hlk hW dX5_addEdge_186 (iw (by rw [hE])) (by rw [hE])
                      · exact absurd hc29 (by omega)
                    | succ k136 ih136 =>
                      intro j f hkk hj hq2 H locs ls hW hl
                      refine r_iload C dX5_addEdge_136 hl 2 rfl ?_
                      refine r_bipush (z := 24) C dX5_addEdge_138 rfl ?_
                      refine r_icmp_ge C 174 dX5_addEdge_140 (by decide) (by omega) (by omega) (fun hc30 => ?_) (fun hc30 => ?_)
                      · exact absurd hc30 (by omega)
                      · skip
                        refine r_aload_n C dX5_addEdge_143 hl 0 rfl ?_
                        refine r_get (v := .ref (ad 1)) C f_X5_13 hW.1 0 rfl rfl dX5_addEdge_144 ?_
                        refine r_bipush (z := 62) C dX5_addEdge_147 rfl ?_
                        refine r_bipush (z := 27) C dX5_addEdge_149 rfl ?_
                        refine r_iload C dX5_addEdge_151 hl 1 rfl ?_
                        refine r_imul C dX5_addEdge_153 ?_
                        refine r_iadd C dX5_addEdge_154 ?_
                        refine r_iconst (z := 3) C dX5_addEdge_155 rfl ?_
                        refine r_iadd C dX5_addEdge_156 ?_
                        refine r_iload C dX5_addEdge_157 hl 2 rfl ?_
                        refine r_iadd C dX5_addEdge_159 ?_
                        refine r_iconst (z := 1) C dX5_addEdge_160 rfl ?_
                        refine r_iload C dX5_addEdge_161 hl 2 rfl ?_
                        refine r_bipush (z := 8) C dX5_addEdge_163 rfl ?_
                        refine r_irem C (by omega) dX5_addEdge_165 ?_
                        refine r_ishl1 C (by omega) (by omega) dX5_addEdge_166 ?_
                        have hb31 := p2_0 (j % 8)
                        have hb32 : p2 (j % 8) < 256 := p2_8 (by omega)
                        refine r_iast (f := f) C hW (mF g o ad (M_refused) (up f (((62 + (27 * (M_now 2))) + 3) + j) (p2 (j % 8))) (M_kept) (M_states) (M_place) (M_startFact) (M_node) (M_fact) (M_ahead) (M_inside) (M_entries) (M_caller) (M_following) (M_firstCaller) (M_lastCaller) (M_callers) (M_known) (M_loose) (M_stack) (M_high) (M_pairs) (M_told) (M_text) (M_typed) (M_orders) (M_written) (M_look)) 2 rfl (Nat.le_of_ble_eq_true rfl) (by omega) rfl dX5_addEdge_167 (fun H locs hW => ?_)
                        refine r_iinc (v := j + 1) C [(5, .int (iI (j + 1))), (0, .ref (o)), (4, .int (iI (M_now 2)))] dX5_addEdge_168 hl 2 rfl (by decide) (by omega) rfl (fun ls hl => ?_)
                        refine r_goto C 136 dX5_addEdge_171 (by decide) ?_
                        exact ih136 _ _ (by omega) (by omega) (by rw [hq2, it_s]) _ _ ls hW (lv_sub hl [1, 2, 0] rfl)
                  exact hloop136 24 0 _ (by omega) (by omega) rfl _ _ ls hW (lv_sub hl [2, 1, 0] rfl)
                · skip
                  refine r_bipush (z := -4) C dX5_addEdge_76 rfl ?_
                  have hE : nAddEdge (M_now) n k q = (-4, M_now) := by unfold nAddEdge; rw [if_pos (by omega)]; exact if_pos (by omega)
                  exact MW_iret C hAe hrt hlk hW dX5_addEdge_78 (iw (by rw [hE])) (by rw [hE])
              · skip
                refine r_bipush (z := -2) C dX5_addEdge_62 rfl ?_
                have hE : nAddEdge (M_now) n k q = (-2, M_now) := if_neg (by omega)
                exact MW_iret C hAe hrt hlk hW dX5_addEdge_64 (iw (by rw [hE])) (by rw [hE])
        · skip
          refine r_bipush (z := -2) C dX5_addEdge_29 rfl ?_
          have hE : nAddEdge (M_now) n k q = (-2, M_now) := if_neg (by omega)
          exact MW_iret C hAe hrt hlk hW dX5_addEdge_31 (iw (by rw [hE])) (by rw [hE])
set_option maxHeartbeats 4000000 in
set_option maxRecDepth 100000 in
theorem c_X5_addCall (l : Launch) (g : GG) (o : Nat) (ad : Nat → Nat) (M_refused : (Int → Int)) (M_now : (Int → Int)) (M_kept : (Int → Int)) (M_states : Int) (M_place : (Int → Int)) (M_startFact : (Int → Int)) (M_node : (Int → Int)) (M_fact : (Int → Int)) (M_ahead : (Int → Int)) (M_inside : (Int → Int)) (M_entries : Int) (M_caller : (Int → Int)) (M_following : (Int → Int)) (M_firstCaller : (Int → Int)) (M_lastCaller : (Int → Int)) (M_callers : Int) (M_known : Int) (M_loose : (Int → Int)) (M_stack : (Int → Int)) (M_high : Int) (M_pairs : (Int → Int)) (M_told : Int) (M_text : (Int → Int)) (M_typed : Int) (M_orders : (Int → Int)) (M_written : Int) (M_look : Int) (n q k : Int) (hN : nOk (M_now)) (h_n : rg n) (h_q : rg q) (h_k : rg k) : MW l g yX5_addCall cX5_addCall 4 (some .int) 3 68 [.ref (o), .int (iI (n)), .int (iI (q)), .int (iI (k))] (mF g o ad (M_refused) (M_now) (M_kept) (M_states) (M_place) (M_startFact) (M_node) (M_fact) (M_ahead) (M_inside) (M_entries) (M_caller) (M_following) (M_firstCaller) (M_lastCaller) (M_callers) (M_known) (M_loose) (M_stack) (M_high) (M_pairs) (M_told) (M_text) (M_typed) (M_orders) (M_written) (M_look)) (mF g o ad (M_refused) ((nAddCall (M_now) n q k).2) (M_kept) (M_states) (M_place) (M_startFact) (M_node) (M_fact) (M_ahead) (M_inside) (M_entries) (M_caller) (M_following) (M_firstCaller) (M_lastCaller) (M_callers) (M_known) (M_loose) (M_stack) (M_high) (M_pairs) (M_told) (M_text) (M_typed) (M_orders) (M_written) (M_look)) (some (.int (iI ((nAddCall (M_now) n q k).1)))) := by
  refine MW_start (by decide) (Nat.le_of_ble_eq_true rfl) ?_
  intro zp ze zs zm zb zt zc A hAe C hrt hlk hW ls hl
  have hA : ∀ q, zs.heap.size ≤ q → A q := fun q h => by rw [hAe]; exact Or.inr h
  have hl : lv_has ls 4 [(0, .ref (o)), (1, .int (iI (n))), (2, .int (iI (q))), (3, .int (iI (k)))] := hl
  have hN_0 := hN.1
  have hN_1 := hN.2.1
  have hN_2 := hN.2.2.1
  have hN_3 := hN.2.2.2.1
  refine r_aload_n C dX5_addCall_0 hl 0 rfl ?_
  refine r_iload_n C dX5_addCall_1 hl 2 rfl ?_
  refine r_callR (rest := []) (r := .int (iI (bI (0 ≤ q ∧ q ≤ (M_now) 0 - 1)))) C hl.1 (c_X5_isProc l g o ad (M_refused) (M_now) (M_kept) (M_states) (M_place) (M_startFact) (M_node) (M_fact) (M_ahead) (M_inside) (M_entries) (M_caller) (M_following) (M_firstCaller) (M_lastCaller) (M_callers) (M_known) (M_loose) (M_stack) (M_high) (M_pairs) (M_told) (M_text) (M_typed) (M_orders) (M_written) (M_look) q (by assumption) (show rg q by omega)) v_X5_97 rfl hW.1 0 rfl rfl rfl (by decide) (by decide) (Nat.le_of_ble_eq_true rfl) dX5_addCall_2 rfl ?_
  refine r_ifb_eq C 18 dX5_addCall_5 (by decide) (fun hc1 => ?_) (fun hc1 => ?_)
  · skip
    refine r_bipush (z := -2) C dX5_addCall_18 rfl ?_
    have hE : nAddCall (M_now) n q k = (-2, M_now) := if_neg (by assumption)
    exact MW_iret C hAe hrt hlk hW dX5_addCall_20 (iw (by rw [hE])) (by rw [hE])
  · skip
    refine r_aload_n C dX5_addCall_8 hl 0 rfl ?_
    refine r_iload_n C dX5_addCall_9 hl 1 rfl ?_
    refine r_iload_n C dX5_addCall_10 hl 3 rfl ?_
    refine r_iload_n C dX5_addCall_11 hl 2 rfl ?_
    refine r_callW (rest := []) (r := some (.int (iI ((nAddEdge ((M_now)) n k q).1)))) (wr := []) (ws2 := mF g o ad (M_refused) ((nAddEdge ((M_now)) n k q).2) (M_kept) (M_states) (M_place) (M_startFact) (M_node) (M_fact) (M_ahead) (M_inside) (M_entries) (M_caller) (M_following) (M_firstCaller) (M_lastCaller) (M_callers) (M_known) (M_loose) (M_stack) (M_high) (M_pairs) (M_told) (M_text) (M_typed) (M_orders) (M_written) (M_look)) (st1 := [.int (iI ((nAddEdge ((M_now)) n k q).1))]) C hl.1 hW hA (c_X5_addEdge l g o ad (M_refused) (M_now) (M_kept) (M_states) (M_place) (M_startFact) (M_node) (M_fact) (M_ahead) (M_inside) (M_entries) (M_caller) (M_following) (M_firstCaller) (M_lastCaller) (M_callers) (M_known) (M_loose) (M_stack) (M_high) (M_pairs) (M_told) (M_text) (M_typed) (M_orders) (M_written) (M_look) n k q (by assumption) (show rg n by omega) (show rg k by omega) (show rg q by omega)) v_X5_111 rfl [0, 1, 2, 3, 4, 5, 6, 7, 8, 9, 10, 11, 12, 13, 14, 15, 16, 17, 18] [] [0, 1, 2, 3, 4, 5, 6, 7, 8, 9, 10, 11, 12, 13, 14, 15, 16, 17, 18] rfl rfl (by decide) (by decide) rfl rfl 0 rfl rfl rfl (by decide) (by decide) (Nat.le_of_ble_eq_true rfl) dX5_addCall_12 rfl rfl (fun H locs hW => ?_)
    refine r_goto C 20 dX5_addCall_15 (by decide) ?_
    have hE : nAddCall (M_now) n q k = ((nAddEdge ((M_now)) n k q).1, (nAddEdge ((M_now)) n k q).2) := if_pos (by assumption)
    exact MW_iret C hAe hrt hlk hW dX5_addCall_20 (iw (by rw [hE])) (by rw [hE])
set_option maxHeartbeats 4000000 in
set_option maxRecDepth 100000 in
theorem c_X5_isFlow (l : Launch) (g : GG) (o : Nat) (ad : Nat → Nat) (M_refused : (Int → Int)) (M_now : (Int → Int)) (M_kept : (Int → Int)) (M_states : Int) (M_place : (Int → Int)) (M_startFact : (Int → Int)) (M_node : (Int → Int)) (M_fact : (Int → Int)) (M_ahead : (Int → Int)) (M_inside : (Int → Int)) (M_entries : Int) (M_caller : (Int → Int)) (M_following : (Int → Int)) (M_firstCaller : (Int → Int)) (M_lastCaller : (Int → Int)) (M_callers : Int) (M_known : Int) (M_loose : (Int → Int)) (M_stack : (Int → Int)) (M_high : Int) (M_pairs : (Int → Int)) (M_told : Int) (M_text : (Int → Int)) (M_typed : Int) (M_orders : (Int → Int)) (M_written : Int) (M_look : Int) (e w a : Int) (hN : nOk (M_now)) (h_e : rg e) (h_w : rg w) (h_a : rg a) : MR l g yX5_isFlow cX5_isFlow 4 (some .boolean) 2 43 [.ref (o), .int (iI (e)), .int (iI (w)), .int (iI (a))] (mF g o ad (M_refused) (M_now) (M_kept) (M_states) (M_place) (M_startFact) (M_node) (M_fact) (M_ahead) (M_inside) (M_entries) (M_caller) (M_following) (M_firstCaller) (M_lastCaller) (M_callers) (M_known) (M_loose) (M_stack) (M_high) (M_pairs) (M_told) (M_text) (M_typed) (M_orders) (M_written) (M_look)) (.int (iI (bI ((0 ≤ e ∧ e ≤ M_now 2 - 1) ∧ (0 ≤ w ∧ w ≤ (if M_now (62 + 27 * e + 2) = -1 then 0 else 2)) ∧ (0 ≤ a ∧ a ≤ 7))))) := by
  refine MR_start (by decide) (Nat.le_of_ble_eq_true rfl) ?_
  intro zp ze zs zm zb zt zc C hrt hlk hH ls hl
  have hl : lv_has ls 4 [(0, .ref (o)), (1, .int (iI (e))), (2, .int (iI (w))), (3, .int (iI (a)))] := hl
  have hN_0 := hN.1
  have hN_1 := hN.2.1
  have hN_2 := hN.2.2.1
  have hN_3 := hN.2.2.2.1
  refine r_aload_n C dX5_isFlow_0 hl 0 rfl ?_
  refine r_iload_n C dX5_isFlow_1 hl 1 rfl ?_
  refine r_callR (rest := []) (r := .int (iI (bI (0 ≤ e ∧ e ≤ (M_now) 2 - 1)))) C hl.1 (c_X5_isEdge l g o ad (M_refused) (M_now) (M_kept) (M_states) (M_place) (M_startFact) (M_node) (M_fact) (M_ahead) (M_inside) (M_entries) (M_caller) (M_following) (M_firstCaller) (M_lastCaller) (M_callers) (M_known) (M_loose) (M_stack) (M_high) (M_pairs) (M_told) (M_text) (M_typed) (M_orders) (M_written) (M_look) e (by assumption) (show rg e by omega)) v_X5_115 rfl hH 0 rfl rfl rfl (by decide) (by decide) (Nat.le_of_ble_eq_true rfl) dX5_isFlow_2 rfl ?_
  refine r_ifb_eq C 45 dX5_isFlow_5 (by decide) (fun hc1 => ?_) (fun hc1 => ?_)
  · skip
    refine r_iconst (z := 0) C dX5_isFlow_45 rfl ?_
    exact MR_zret (d := (0 ≤ e ∧ e ≤ M_now 2 - 1) ∧ (0 ≤ w ∧ w ≤ (if M_now (62 + 27 * e + 2) = -1 then 0 else 2)) ∧ (0 ≤ a ∧ a ≤ 7)) C hrt hlk dX5_isFlow_46 (bI_f (fun h => by obtain ⟨h1, h2, h3⟩ := h; split at h2 <;> omega)).symm rfl
  · skip
    refine r_iload_n C dX5_isFlow_8 hl 2 rfl ?_
    refine r_iconst (z := 0) C dX5_isFlow_9 rfl ?_
    refine r_aload_n C dX5_isFlow_10 hl 0 rfl ?_
    refine r_iload_n C dX5_isFlow_11 hl 1 rfl ?_
    refine r_iconst (z := 2) C dX5_isFlow_12 rfl ?_
    refine r_callR (rest := [.int (iI (0)), .int (iI (w))]) (r := .int (iI ((M_now) (62 + 27 * e + 2)))) C hl.1 (c_X5_edgeOf l g o ad (M_refused) (M_now) (M_kept) (M_states) (M_place) (M_startFact) (M_node) (M_fact) (M_ahead) (M_inside) (M_entries) (M_caller) (M_following) (M_firstCaller) (M_lastCaller) (M_callers) (M_known) (M_loose) (M_stack) (M_high) (M_pairs) (M_told) (M_text) (M_typed) (M_orders) (M_written) (M_look) e 2 (by assumption) (show 0 ≤ e ∧ e < 32 by omega) (show 0 ≤ 2 ∧ 2 < 3 by omega)) v_X5_118 rfl hH 0 rfl rfl rfl (by decide) (by decide) (Nat.le_of_ble_eq_true rfl) dX5_isFlow_13 rfl ?_
    have hq2 := nEdge_q ((M_now)) e 2 (by assumption) (by omega) (by omega)
    refine r_iconst (z := -1) C dX5_isFlow_16 rfl ?_
    refine r_icmp_ne C 24 dX5_isFlow_17 (by decide) (by omega) (by omega) (fun hc3 => ?_) (fun hc3 => ?_)
    · skip
      refine r_iconst (z := 2) C dX5_isFlow_24 rfl ?_
      refine r_callRS (rest := []) (r := .int (iI (bI (0 ≤ w ∧ w ≤ 2)))) C hl.1 (c_X5_in l g  w 0 2 (show rg w by omega) (show rg 0 by omega) (show rg 2 by omega)) v_X5_89 rfl (fun k q h => by simp at h) (by decide) (by decide) (Nat.le_of_ble_eq_true rfl) dX5_isFlow_25 rfl ?_
      refine r_ifb_eq C 45 dX5_isFlow_28 (by decide) (fun hc4 => ?_) (fun hc4 => ?_)
      · skip
        refine r_iconst (z := 0) C dX5_isFlow_45 rfl ?_
        exact MR_zret (d := (0 ≤ e ∧ e ≤ M_now 2 - 1) ∧ (0 ≤ w ∧ w ≤ (if M_now (62 + 27 * e + 2) = -1 then 0 else 2)) ∧ (0 ≤ a ∧ a ≤ 7)) C hrt hlk dX5_isFlow_46 (bI_f (fun h => by obtain ⟨h1, h2, h3⟩ := h; split at h2 <;> omega)).symm rfl
      · skip
        refine r_iload_n C dX5_isFlow_31 hl 3 rfl ?_
        refine r_iconst (z := 0) C dX5_isFlow_32 rfl ?_
        refine r_bipush (z := 7) C dX5_isFlow_33 rfl ?_
        refine r_callRS (rest := []) (r := .int (iI (bI (0 ≤ a ∧ a ≤ 7)))) C hl.1 (c_X5_in l g  a 0 7 (show rg a by omega) (show rg 0 by omega) (show rg 7 by omega)) v_X5_89 rfl (fun k q h => by simp at h) (by decide) (by decide) (Nat.le_of_ble_eq_true rfl) dX5_isFlow_35 rfl ?_
        refine r_ifb_eq C 45 dX5_isFlow_38 (by decide) (fun hc5 => ?_) (fun hc5 => ?_)
        · skip
          refine r_iconst (z := 0) C dX5_isFlow_45 rfl ?_
          exact MR_zret (d := (0 ≤ e ∧ e ≤ M_now 2 - 1) ∧ (0 ≤ w ∧ w ≤ (if M_now (62 + 27 * e + 2) = -1 then 0 else 2)) ∧ (0 ≤ a ∧ a ≤ 7)) C hrt hlk dX5_isFlow_46 (bI_f (fun h => by obtain ⟨h1, h2, h3⟩ := h; split at h2 <;> omega)).symm rfl
        · skip
          refine r_iconst (z := 1) C dX5_isFlow_41 rfl ?_
          refine r_goto C 46 dX5_isFlow_42 (by decide) ?_
          exact MR_zret (d := (0 ≤ e ∧ e ≤ M_now 2 - 1) ∧ (0 ≤ w ∧ w ≤ (if M_now (62 + 27 * e + 2) = -1 then 0 else 2)) ∧ (0 ≤ a ∧ a ≤ 7)) C hrt hlk dX5_isFlow_46 (bI_t ⟨by omega, by split <;> omega, by omega⟩).symm rfl
    · skip
      refine r_iconst (z := 0) C dX5_isFlow_20 rfl ?_
      refine r_goto C 25 dX5_isFlow_21 (by decide) ?_
      refine r_callRS (rest := []) (r := .int (iI (bI (0 ≤ w ∧ w ≤ 0)))) C hl.1 (c_X5_in l g  w 0 0 (show rg w by omega) (show rg 0 by omega) (show rg 0 by omega)) v_X5_89 rfl (fun k q h => by simp at h) (by decide) (by decide) (Nat.le_of_ble_eq_true rfl) dX5_isFlow_25 rfl ?_
      refine r_ifb_eq C 45 dX5_isFlow_28 (by decide) (fun hc6 => ?_) (fun hc6 => ?_)
      · skip
        refine r_iconst (z := 0) C dX5_isFlow_45 rfl ?_
        exact MR_zret (d := (0 ≤ e ∧ e ≤ M_now 2 - 1) ∧ (0 ≤ w ∧ w ≤ (if M_now (62 + 27 * e + 2) = -1 then 0 else 2)) ∧ (0 ≤ a ∧ a ≤ 7)) C hrt hlk dX5_isFlow_46 (bI_f (fun h => by obtain ⟨h1, h2, h3⟩ := h; split at h2 <;> omega)).symm rfl
      · skip
        refine r_iload_n C dX5_isFlow_31 hl 3 rfl ?_
        refine r_iconst (z := 0) C dX5_isFlow_32 rfl ?_
        refine r_bipush (z := 7) C dX5_isFlow_33 rfl ?_
        refine r_callRS (rest := []) (r := .int (iI (bI (0 ≤ a ∧ a ≤ 7)))) C hl.1 (c_X5_in l g  a 0 7 (show rg a by omega) (show rg 0 by omega) (show rg 7 by omega)) v_X5_89 rfl (fun k q h => by simp at h) (by decide) (by decide) (Nat.le_of_ble_eq_true rfl) dX5_isFlow_35 rfl ?_
        refine r_ifb_eq C 45 dX5_isFlow_38 (by decide) (fun hc7 => ?_) (fun hc7 => ?_)
        · skip
          refine r_iconst (z := 0) C dX5_isFlow_45 rfl ?_
          exact MR_zret (d := (0 ≤ e ∧ e ≤ M_now 2 - 1) ∧ (0 ≤ w ∧ w ≤ (if M_now (62 + 27 * e + 2) = -1 then 0 else 2)) ∧ (0 ≤ a ∧ a ≤ 7)) C hrt hlk dX5_isFlow_46 (bI_f (fun h => by obtain ⟨h1, h2, h3⟩ := h; split at h2 <;> omega)).symm rfl
        · skip
          refine r_iconst (z := 1) C dX5_isFlow_41 rfl ?_
          refine r_goto C 46 dX5_isFlow_42 (by decide) ?_
          exact MR_zret (d := (0 ≤ e ∧ e ≤ M_now 2 - 1) ∧ (0 ≤ w ∧ w ≤ (if M_now (62 + 27 * e + 2) = -1 then 0 else 2)) ∧ (0 ≤ a ∧ a ≤ 7)) C hrt hlk dX5_isFlow_46 (bI_t ⟨by omega, by split <;> omega, by omega⟩).symm rfl
set_option maxHeartbeats 4000000 in
set_option maxRecDepth 100000 in
theorem c_X5_setFlow (l : Launch) (g : GG) (o : Nat) (ad : Nat → Nat) (M_refused : (Int → Int)) (M_now : (Int → Int)) (M_kept : (Int → Int)) (M_states : Int) (M_place : (Int → Int)) (M_startFact : (Int → Int)) (M_node : (Int → Int)) (M_fact : (Int → Int)) (M_ahead : (Int → Int)) (M_inside : (Int → Int)) (M_entries : Int) (M_caller : (Int → Int)) (M_following : (Int → Int)) (M_firstCaller : (Int → Int)) (M_lastCaller : (Int → Int)) (M_callers : Int) (M_known : Int) (M_loose : (Int → Int)) (M_stack : (Int → Int)) (M_high : Int) (M_pairs : (Int → Int)) (M_told : Int) (M_text : (Int → Int)) (M_typed : Int) (M_orders : (Int → Int)) (M_written : Int) (M_look : Int) (e w a v : Int) (hN : nOk (M_now)) (h_e : rg e) (h_w : rg w) (h_a : rg a) (h_v : rg v) : MW l g yX5_setFlow cX5_setFlow 6 (some .int) 3 66 [.ref (o), .int (iI (e)), .int (iI (w)), .int (iI (a)), .int (iI (v))] (mF g o ad (M_refused) (M_now) (M_kept) (M_states) (M_place) (M_startFact) (M_node) (M_fact) (M_ahead) (M_inside) (M_entries) (M_caller) (M_following) (M_firstCaller) (M_lastCaller) (M_callers) (M_known) (M_loose) (M_stack) (M_high) (M_pairs) (M_told) (M_text) (M_typed) (M_orders) (M_written) (M_look)) (mF g o ad (M_refused) ((nSetFlow (M_now) e w a v).2) (M_kept) (M_states) (M_place) (M_startFact) (M_node) (M_fact) (M_ahead) (M_inside) (M_entries) (M_caller) (M_following) (M_firstCaller) (M_lastCaller) (M_callers) (M_known) (M_loose) (M_stack) (M_high) (M_pairs) (M_told) (M_text) (M_typed) (M_orders) (M_written) (M_look)) (some (.int (iI ((nSetFlow (M_now) e w a v).1)))) := by
  refine MW_start (by decide) (Nat.le_of_ble_eq_true rfl) ?_
  intro zp ze zs zm zb zt zc A hAe C hrt hlk hW ls hl
  have hA : ∀ q, zs.heap.size ≤ q → A q := fun q h => by rw [hAe]; exact Or.inr h
  have hl : lv_has ls 6 [(0, .ref (o)), (1, .int (iI (e))), (2, .int (iI (w))), (3, .int (iI (a))), (4, .int (iI (v)))] := hl
  have hN_0 := hN.1
  have hN_1 := hN.2.1
  have hN_2 := hN.2.2.1
  have hN_3 := hN.2.2.2.1
  refine r_aload_n C dX5_setFlow_0 hl 0 rfl ?_
  refine r_iload_n C dX5_setFlow_1 hl 1 rfl ?_
  refine r_iload_n C dX5_setFlow_2 hl 2 rfl ?_
  refine r_iload_n C dX5_setFlow_3 hl 3 rfl ?_
  refine r_callR (rest := []) (r := .int (iI (bI ((0 ≤ e ∧ e ≤ (M_now) 2 - 1) ∧ (0 ≤ w ∧ w ≤ (if (M_now) (62 + 27 * e + 2) = -1 then 0 else 2)) ∧ (0 ≤ a ∧ a ≤ 7))))) C hl.1 (c_X5_isFlow l g o ad (M_refused) (M_now) (M_kept) (M_states) (M_place) (M_startFact) (M_node) (M_fact) (M_ahead) (M_inside) (M_entries) (M_caller) (M_following) (M_firstCaller) (M_lastCaller) (M_callers) (M_known) (M_loose) (M_stack) (M_high) (M_pairs) (M_told) (M_text) (M_typed) (M_orders) (M_written) (M_look) e w a (by assumption) (show rg e by omega) (show rg w by omega) (show rg a by omega)) v_X5_121 rfl hW.1 0 rfl rfl rfl (by decide) (by decide) (Nat.le_of_ble_eq_true rfl) dX5_setFlow_4 rfl ?_
  refine r_ifb_eq C 38 dX5_setFlow_7 (by decide) (fun hc1 => ?_) (fun hc1 => ?_)
  · skip
    refine r_bipush (z := -2) C dX5_setFlow_38 rfl ?_
    have hE : nSetFlow (M_now) e w a v = (-2, M_now) := if_neg (fun h => hc1 h.1)
    exact MW_iret C hAe hrt hlk hW dX5_setFlow_40 (iw (by rw [hE])) (by rw [hE])
  · skip
    refine r_iload C dX5_setFlow_10 hl 4 rfl ?_
    refine r_iconst (z := 0) C dX5_setFlow_12 rfl ?_
    refine r_sipush (z := 255) C dX5_setFlow_13 rfl ?_
    refine r_callRS (rest := []) (r := .int (iI (bI (0 ≤ v ∧ v ≤ 255)))) C hl.1 (c_X5_in l g  v 0 255 (show rg v by omega) (show rg 0 by omega) (show rg 255 by omega)) v_X5_89 rfl (fun k q h => by simp at h) (by decide) (by decide) (Nat.le_of_ble_eq_true rfl) dX5_setFlow_16 rfl ?_
    refine r_ifb_eq C 38 dX5_setFlow_19 (by decide) (fun hc2 => ?_) (fun hc2 => ?_)
    · skip
      refine r_bipush (z := -2) C dX5_setFlow_38 rfl ?_
      have hE : nSetFlow (M_now) e w a v = (-2, M_now) := if_neg (fun h => hc2 h.2.1)
      exact MW_iret C hAe hrt hlk hW dX5_setFlow_40 (iw (by rw [hE])) (by rw [hE])
    · skip
      refine r_iload C dX5_setFlow_22 hl 4 rfl ?_
      refine r_iconst (z := 1) C dX5_setFlow_24 rfl ?_
      refine r_iand C (by omega) (by omega) dX5_setFlow_25 ?_
      have hb3 := bA_0 v 1
      have hb5 := Nat.and_le_right (n := (v).toNat) (m := (1 : Int).toNat); have hb4 : bA v 1 ≤ 1 := by unfold bA; omega
      refine r_iload_n C dX5_setFlow_26 hl 3 rfl ?_
      refine r_if_ne C 34 dX5_setFlow_27 (by decide) (by omega) (fun hc6 => ?_) (fun hc6 => ?_)
      · skip
        refine r_iconst (z := 0) C dX5_setFlow_34 rfl ?_
        refine r_icmp_eq C 41 dX5_setFlow_35 (by decide) (by omega) (by omega) (fun hc7 => ?_) (fun hc7 => ?_)
        · skip
          have hwr : w < 3 := by
            obtain ⟨he9, hw9, ha9⟩ := hc1
            split at hw9 <;> omega
          refine r_aload_n C dX5_setFlow_41 hl 0 rfl ?_
          refine r_iload_n C dX5_setFlow_42 hl 1 rfl ?_
          refine r_iload_n C dX5_setFlow_43 hl 2 rfl ?_
          refine r_iload_n C dX5_setFlow_44 hl 3 rfl ?_
          refine r_callR (rest := []) (r := .int (iI ((M_now) (62 + 27 * e + 3 + 8 * w + a)))) C hl.1 (c_X5_flowOf l g o ad (M_refused) (M_now) (M_kept) (M_states) (M_place) (M_startFact) (M_node) (M_fact) (M_ahead) (M_inside) (M_entries) (M_caller) (M_following) (M_firstCaller) (M_lastCaller) (M_callers) (M_known) (M_loose) (M_stack) (M_high) (M_pairs) (M_told) (M_text) (M_typed) (M_orders) (M_written) (M_look) e w a (by assumption) (show 0 ≤ e ∧ e < 32 by omega) (show 0 ≤ w ∧ w < 3 by omega) (show 0 ≤ a ∧ a < 8 by omega)) v_X5_124 rfl hW.1 0 rfl rfl rfl (by decide) (by decide) (Nat.le_of_ble_eq_true rfl) dX5_setFlow_45 rfl ?_
          have hq8 := nFlow_q ((M_now)) e w a (by assumption) (by omega) (by omega) (by omega)
          refine r_istore C [(5, .int (iI ((M_now) (62 + 27 * e + 3 + 8 * w + a)))), (0, .ref (o)), (1, .int (iI (e))), (2, .int (iI (w))), (3, .int (iI (a))), (4, .int (iI (v)))] dX5_setFlow_48 hl (by decide) rfl (fun ls hl => ?_)
          refine r_aload_n C dX5_setFlow_50 hl 1 rfl ?_
          refine r_get (v := .ref (ad 1)) C f_X5_13 hW.1 0 rfl rfl dX5_setFlow_51 ?_
          refine r_bipush (z := 62) C dX5_setFlow_54 rfl ?_
          refine r_bipush (z := 27) C dX5_setFlow_56 rfl ?_
          refine r_iload_n C dX5_setFlow_58 hl 2 rfl ?_
          refine r_imul C dX5_setFlow_59 ?_
          refine r_iadd C dX5_setFlow_60 ?_
          refine r_iconst (z := 3) C dX5_setFlow_61 rfl ?_
          refine r_iadd C dX5_setFlow_62 ?_
          refine r_bipush (z := 8) C dX5_setFlow_63 rfl ?_
          refine r_iload_n C dX5_setFlow_65 hl 3 rfl ?_
          refine r_imul C dX5_setFlow_66 ?_
          refine r_iadd C dX5_setFlow_67 ?_
          refine r_iload_n C dX5_setFlow_68 hl 4 rfl ?_
          refine r_iadd C dX5_setFlow_69 ?_
          refine r_iload C dX5_setFlow_70 hl 5 rfl ?_
          refine r_iast (f := M_now) C hW (mF g o ad (M_refused) (up (M_now) ((((62 + (27 * e)) + 3) + (8 * w)) + a) v) (M_kept) (M_states) (M_place) (M_startFact) (M_node) (M_fact) (M_ahead) (M_inside) (M_entries) (M_caller) (M_following) (M_firstCaller) (M_lastCaller) (M_callers) (M_known) (M_loose) (M_stack) (M_high) (M_pairs) (M_told) (M_text) (M_typed) (M_orders) (M_written) (M_look)) 2 rfl (Nat.le_of_ble_eq_true rfl) (by omega) rfl dX5_setFlow_72 (fun H locs hW => ?_)
          refine r_iload C dX5_setFlow_73 hl 0 rfl ?_
          have hE : nSetFlow (M_now) e w a v = ((M_now) (62 + 27 * e + 3 + 8 * w + a), up (M_now) ((((62 + (27 * e)) + 3) + (8 * w)) + a) v) := if_pos ⟨hc1, hc2, by rw [if_neg hc6]; exact hc7⟩
          exact MW_iret C hAe hrt hlk hW dX5_setFlow_75 (iw (by rw [hE])) (by rw [hE])
        · skip
          refine r_bipush (z := -2) C dX5_setFlow_38 rfl ?_
          have hE : nSetFlow (M_now) e w a v = (-2, M_now) := if_neg (fun h => hc7 (by rw [h.2.2, if_neg hc6]))
          exact MW_iret C hAe hrt hlk hW dX5_setFlow_40 (iw (by rw [hE])) (by rw [hE])
      · skip
        refine r_iconst (z := 1) C dX5_setFlow_30 rfl ?_
        refine r_goto C 35 dX5_setFlow_31 (by decide) ?_
        refine r_icmp_eq C 41 dX5_setFlow_35 (by decide) (by omega) (by omega) (fun hc9 => ?_) (fun hc9 => ?_)
        · skip
          have hwr : w < 3 := by
            obtain ⟨he9, hw9, ha9⟩ := hc1
            split at hw9 <;> omega
          refine r_aload_n C dX5_setFlow_41 hl 0 rfl ?_
          refine r_iload_n C dX5_setFlow_42 hl 1 rfl ?_
          refine r_iload_n C dX5_setFlow_43 hl 2 rfl ?_
          refine r_iload_n C dX5_setFlow_44 hl 3 rfl ?_
          refine r_callR (rest := []) (r := .int (iI ((M_now) (62 + 27 * e + 3 + 8 * w + a)))) C hl.1 (c_X5_flowOf l g o ad (M_refused) (M_now) (M_kept) (M_states) (M_place) (M_startFact) (M_node) (M_fact) (M_ahead) (M_inside) (M_entries) (M_caller) (M_following) (M_firstCaller) (M_lastCaller) (M_callers) (M_known) (M_loose) (M_stack) (M_high) (M_pairs) (M_told) (M_text) (M_typed) (M_orders) (M_written) (M_look) e w a (by assumption) (show 0 ≤ e ∧ e < 32 by omega) (show 0 ≤ w ∧ w < 3 by omega) (show 0 ≤ a ∧ a < 8 by omega)) v_X5_124 rfl hW.1 0 rfl rfl rfl (by decide) (by decide) (Nat.le_of_ble_eq_true rfl) dX5_setFlow_45 rfl ?_
          have hq10 := nFlow_q ((M_now)) e w a (by assumption) (by omega) (by omega) (by omega)
          refine r_istore C [(5, .int (iI ((M_now) (62 + 27 * e + 3 + 8 * w + a)))), (0, .ref (o)), (1, .int (iI (e))), (2, .int (iI (w))), (3, .int (iI (a))), (4, .int (iI (v)))] dX5_setFlow_48 hl (by decide) rfl (fun ls hl => ?_)
          refine r_aload_n C dX5_setFlow_50 hl 1 rfl ?_
          refine r_get (v := .ref (ad 1)) C f_X5_13 hW.1 0 rfl rfl dX5_setFlow_51 ?_
          refine r_bipush (z := 62) C dX5_setFlow_54 rfl ?_
          refine r_bipush (z := 27) C dX5_setFlow_56 rfl ?_
          refine r_iload_n C dX5_setFlow_58 hl 2 rfl ?_
          refine r_imul C dX5_setFlow_59 ?_
          refine r_iadd C dX5_setFlow_60 ?_
          refine r_iconst (z := 3) C dX5_setFlow_61 rfl ?_
          refine r_iadd C dX5_setFlow_62 ?_
          refine r_bipush (z := 8) C dX5_setFlow_63 rfl ?_
          refine r_iload_n C dX5_setFlow_65 hl 3 rfl ?_
          refine r_imul C dX5_setFlow_66 ?_
          refine r_iadd C dX5_setFlow_67 ?_
          refine r_iload_n C dX5_setFlow_68 hl 4 rfl ?_
          refine r_iadd C dX5_setFlow_69 ?_
          refine r_iload C dX5_setFlow_70 hl 5 rfl ?_
          refine r_iast (f := M_now) C hW (mF g o ad (M_refused) (up (M_now) ((((62 + (27 * e)) + 3) + (8 * w)) + a) v) (M_kept) (M_states) (M_place) (M_startFact) (M_node) (M_fact) (M_ahead) (M_inside) (M_entries) (M_caller) (M_following) (M_firstCaller) (M_lastCaller) (M_callers) (M_known) (M_loose) (M_stack) (M_high) (M_pairs) (M_told) (M_text) (M_typed) (M_orders) (M_written) (M_look)) 2 rfl (Nat.le_of_ble_eq_true rfl) (by omega) rfl dX5_setFlow_72 (fun H locs hW => ?_)
          refine r_iload C dX5_setFlow_73 hl 0 rfl ?_
          have hE : nSetFlow (M_now) e w a v = ((M_now) (62 + 27 * e + 3 + 8 * w + a), up (M_now) ((((62 + (27 * e)) + 3) + (8 * w)) + a) v) := if_pos ⟨hc1, hc2, by rw [if_pos hc6]; exact hc9⟩
          exact MW_iret C hAe hrt hlk hW dX5_setFlow_75 (iw (by rw [hE])) (by rw [hE])
        · skip
          refine r_bipush (z := -2) C dX5_setFlow_38 rfl ?_
          have hE : nSetFlow (M_now) e w a v = (-2, M_now) := if_neg (fun h => hc9 (by rw [h.2.2, if_pos hc6]))
          exact MW_iret C hAe hrt hlk hW dX5_setFlow_40 (iw (by rw [hE])) (by rw [hE])
set_option maxHeartbeats 4000000 in
set_option maxRecDepth 100000 in
theorem c_X5_setStart (l : Launch) (g : GG) (o : Nat) (ad : Nat → Nat) (M_refused : (Int → Int)) (M_now : (Int → Int)) (M_kept : (Int → Int)) (M_states : Int) (M_place : (Int → Int)) (M_startFact : (Int → Int)) (M_node : (Int → Int)) (M_fact : (Int → Int)) (M_ahead : (Int → Int)) (M_inside : (Int → Int)) (M_entries : Int) (M_caller : (Int → Int)) (M_following : (Int → Int)) (M_firstCaller : (Int → Int)) (M_lastCaller : (Int → Int)) (M_callers : Int) (M_known : Int) (M_loose : (Int → Int)) (M_stack : (Int → Int)) (M_high : Int) (M_pairs : (Int → Int)) (M_told : Int) (M_text : (Int → Int)) (M_typed : Int) (M_orders : (Int → Int)) (M_written : Int) (M_look : Int) (v : Int) (hN : nOk (M_now)) (h_v : rg v) : MW l g yX5_setStart cX5_setStart 3 (some .int) 1 22 [.ref (o), .int (iI (v))] (mF g o ad (M_refused) (M_now) (M_kept) (M_states) (M_place) (M_startFact) (M_node) (M_fact) (M_ahead) (M_inside) (M_entries) (M_caller) (M_following) (M_firstCaller) (M_lastCaller) (M_callers) (M_known) (M_loose) (M_stack) (M_high) (M_pairs) (M_told) (M_text) (M_typed) (M_orders) (M_written) (M_look)) (mF g o ad (M_refused) ((nSetStart (M_now) v).2) (M_kept) (M_states) (M_place) (M_startFact) (M_node) (M_fact) (M_ahead) (M_inside) (M_entries) (M_caller) (M_following) (M_firstCaller) (M_lastCaller) (M_callers) (M_known) (M_loose) (M_stack) (M_high) (M_pairs) (M_told) (M_text) (M_typed) (M_orders) (M_written) (M_look)) (some (.int (iI ((nSetStart (M_now) v).1)))) := by
  refine MW_start (by decide) (Nat.le_of_ble_eq_true rfl) ?_
  intro zp ze zs zm zb zt zc A hAe C hrt hlk hW ls hl
  have hA : ∀ q, zs.heap.size ≤ q → A q := fun q h => by rw [hAe]; exact Or.inr h
  have hl : lv_has ls 3 [(0, .ref (o)), (1, .int (iI (v)))] := hl
  have hN_0 := hN.1
  have hN_1 := hN.2.1
  have hN_2 := hN.2.2.1
  have hN_3 := hN.2.2.2.1
  refine r_iload_n C dX5_setStart_0 hl 1 rfl ?_
  refine r_iconst (z := 0) C dX5_setStart_1 rfl ?_
  refine r_sipush (z := 255) C dX5_setStart_2 rfl ?_
  refine r_callRS (rest := []) (r := .int (iI (bI (0 ≤ v ∧ v ≤ 255)))) C hl.1 (c_X5_in l g  v 0 255 (show rg v by omega) (show rg 0 by omega) (show rg 255 by omega)) v_X5_89 rfl (fun k q h => by simp at h) (by decide) (by decide) (Nat.le_of_ble_eq_true rfl) dX5_setStart_5 rfl ?_
  refine r_ifb_eq C 17 dX5_setStart_8 (by decide) (fun hc1 => ?_) (fun hc1 => ?_)
  · skip
    refine r_bipush (z := -2) C dX5_setStart_17 rfl ?_
    have hE : nSetStart (M_now) v = (-2, M_now) := by unfold nSetStart; split <;> first | rfl | (exfalso; omega)
    exact MW_iret C hAe hrt hlk hW dX5_setStart_19 (iw (by rw [hE])) (by rw [hE])
  · skip
    refine r_iload_n C dX5_setStart_11 hl 1 rfl ?_
    refine r_iconst (z := 1) C dX5_setStart_12 rfl ?_
    refine r_iand C (by omega) (by omega) dX5_setStart_13 ?_
    have hb2 := bA_0 v 1
    have hb4 := Nat.and_le_right (n := (v).toNat) (m := (1 : Int).toNat); have hb3 : bA v 1 ≤ 1 := by unfold bA; omega
    refine r_if_ne C 20 dX5_setStart_14 (by decide) (by omega) (fun hc5 => ?_) (fun hc5 => ?_)
    · skip
      refine r_aload_n C dX5_setStart_20 hl 0 rfl ?_
      refine r_get (v := .ref (ad 1)) C f_X5_13 hW.1 0 rfl rfl dX5_setStart_21 ?_
      refine r_iconst (z := 3) C dX5_setStart_24 rfl ?_
      refine r_iald (f := M_now) C hW.1 2 rfl (Nat.le_of_ble_eq_true rfl) (by omega) dX5_setStart_25 ?_
      have hr6 := hN.2.2.2.1
      refine r_istore_n C [(2, .int (iI (M_now 3))), (0, .ref (o)), (1, .int (iI (v)))] dX5_setStart_26 hl (by decide) rfl (fun ls hl => ?_)
      refine r_aload_n C dX5_setStart_27 hl 1 rfl ?_
      refine r_get (v := .ref (ad 1)) C f_X5_13 hW.1 0 rfl rfl dX5_setStart_28 ?_
      refine r_iconst (z := 3) C dX5_setStart_31 rfl ?_
      refine r_iload_n C dX5_setStart_32 hl 2 rfl ?_
      refine r_iast (f := M_now) C hW (mF g o ad (M_refused) (up (M_now) 3 v) (M_kept) (M_states) (M_place) (M_startFact) (M_node) (M_fact) (M_ahead) (M_inside) (M_entries) (M_caller) (M_following) (M_firstCaller) (M_lastCaller) (M_callers) (M_known) (M_loose) (M_stack) (M_high) (M_pairs) (M_told) (M_text) (M_typed) (M_orders) (M_written) (M_look)) 2 rfl (Nat.le_of_ble_eq_true rfl) (by omega) rfl dX5_setStart_33 (fun H locs hW => ?_)
      refine r_iload_n C dX5_setStart_34 hl 0 rfl ?_
      have hE : nSetStart (M_now) v = (M_now 3, up (M_now) 3 v) := by unfold nSetStart; split <;> first | rfl | (exfalso; omega)
      exact MW_iret C hAe hrt hlk hW dX5_setStart_35 (iw (by rw [hE])) (by rw [hE])
    · skip
      refine r_bipush (z := -2) C dX5_setStart_17 rfl ?_
      have hE : nSetStart (M_now) v = (-2, M_now) := by unfold nSetStart; split <;> first | rfl | (exfalso; omega)
      exact MW_iret C hAe hrt hlk hW dX5_setStart_19 (iw (by rw [hE])) (by rw [hE])
set_option maxHeartbeats 4000000 in
set_option maxRecDepth 100000 in
theorem c_X5_cutEdge (l : Launch) (g : GG) (o : Nat) (ad : Nat → Nat) (M_refused : (Int → Int)) (M_now : (Int → Int)) (M_kept : (Int → Int)) (M_states : Int) (M_place : (Int → Int)) (M_startFact : (Int → Int)) (M_node : (Int → Int)) (M_fact : (Int → Int)) (M_ahead : (Int → Int)) (M_inside : (Int → Int)) (M_entries : Int) (M_caller : (Int → Int)) (M_following : (Int → Int)) (M_firstCaller : (Int → Int)) (M_lastCaller : (Int → Int)) (M_callers : Int) (M_known : Int) (M_loose : (Int → Int)) (M_stack : (Int → Int)) (M_high : Int) (M_pairs : (Int → Int)) (M_told : Int) (M_text : (Int → Int)) (M_typed : Int) (M_orders : (Int → Int)) (M_written : Int) (M_look : Int) (e : Int) (hN : nOk (M_now)) (h_e : rg e) : MW l g yX5_cutEdge cX5_cutEdge 3 (some .int) 2 43 [.ref (o), .int (iI (e))] (mF g o ad (M_refused) (M_now) (M_kept) (M_states) (M_place) (M_startFact) (M_node) (M_fact) (M_ahead) (M_inside) (M_entries) (M_caller) (M_following) (M_firstCaller) (M_lastCaller) (M_callers) (M_known) (M_loose) (M_stack) (M_high) (M_pairs) (M_told) (M_text) (M_typed) (M_orders) (M_written) (M_look)) (mF g o ad (M_refused) ((nCut (M_now) e).2) (M_kept) (M_states) (M_place) (M_startFact) (M_node) (M_fact) (M_ahead) (M_inside) (M_entries) (M_caller) (M_following) (M_firstCaller) (M_lastCaller) (M_callers) (M_known) (M_loose) (M_stack) (M_high) (M_pairs) (M_told) (M_text) (M_typed) (M_orders) (M_written) (M_look)) (some (.int (iI ((nCut (M_now) e).1)))) := by
  refine MW_start (by decide) (Nat.le_of_ble_eq_true rfl) ?_
  intro zp ze zs zm zb zt zc A hAe C hrt hlk hW ls hl
  have hA : ∀ q, zs.heap.size ≤ q → A q := fun q h => by rw [hAe]; exact Or.inr h
  have hl : lv_has ls 3 [(0, .ref (o)), (1, .int (iI (e)))] := hl
  have hN_0 := hN.1
  have hN_1 := hN.2.1
  have hN_2 := hN.2.2.1
  have hN_3 := hN.2.2.2.1
  refine r_aload_n C dX5_cutEdge_0 hl 0 rfl ?_
  refine r_iload_n C dX5_cutEdge_1 hl 1 rfl ?_
  refine r_callR (rest := []) (r := .int (iI (bI (0 ≤ e ∧ e ≤ (M_now) 2 - 1)))) C hl.1 (c_X5_isEdge l g o ad (M_refused) (M_now) (M_kept) (M_states) (M_place) (M_startFact) (M_node) (M_fact) (M_ahead) (M_inside) (M_entries) (M_caller) (M_following) (M_firstCaller) (M_lastCaller) (M_callers) (M_known) (M_loose) (M_stack) (M_high) (M_pairs) (M_told) (M_text) (M_typed) (M_orders) (M_written) (M_look) e (by assumption) (show rg e by omega)) v_X5_115 rfl hW.1 0 rfl rfl rfl (by decide) (by decide) (Nat.le_of_ble_eq_true rfl) dX5_cutEdge_2 rfl ?_
  refine r_ifb_ne C 11 dX5_cutEdge_5 (by decide) (fun hc1 => ?_) (fun hc1 => ?_)
  · skip
    refine r_bipush (z := 62) C dX5_cutEdge_11 rfl ?_
    refine r_bipush (z := 27) C dX5_cutEdge_13 rfl ?_
    refine r_iload_n C dX5_cutEdge_15 hl 1 rfl ?_
    refine r_imul C dX5_cutEdge_16 ?_
    refine r_iadd C dX5_cutEdge_17 ?_
    refine r_istore_n C [(2, .int (iI (62 + (27 * e)))), (0, .ref (o)), (1, .int (iI (e)))] dX5_cutEdge_18 hl (by decide) rfl (fun ls hl => ?_)
    have hloop19 : ∀ (k19 : Nat) (c : Int) (f : Int → Int) (hkk : c + k19 = 899) (hc : 62 ≤ c) (hq2 : nShift (M_now) e = it (fun c f => up f c (f (c + 27))) k19 c f) (H : Heap) (locs : List Loc) (ls : Array Slot), HW g A zs.heap (mF g o ad (M_refused) f (M_kept) (M_states) (M_place) (M_startFact) (M_node) (M_fact) (M_ahead) (M_inside) (M_entries) (M_caller) (M_following) (M_firstCaller) (M_lastCaller) (M_callers) (M_known) (M_loose) (M_stack) (M_high) (M_pairs) (M_told) (M_text) (M_typed) (M_orders) (M_written) (M_look)) H locs → lv_has ls 3 [(0, .ref (o)), (2, .int (iI (c)))] → W zp l ze (rmm 2 43) zs zm (List.toArray [.ref (o), .int (iI (e))]) zb zt zc H locs 0 0 (MQ zb (QW g (mF g o ad (M_refused) (M_now) (M_kept) (M_states) (M_place) (M_startFact) (M_node) (M_fact) (M_ahead) (M_inside) (M_entries) (M_caller) (M_following) (M_firstCaller) (M_lastCaller) (M_callers) (M_known) (M_loose) (M_stack) (M_high) (M_pairs) (M_told) (M_text) (M_typed) (M_orders) (M_written) (M_look)) (mF g o ad (M_refused) ((nCut (M_now) e).2) (M_kept) (M_states) (M_place) (M_startFact) (M_node) (M_fact) (M_ahead) (M_inside) (M_entries) (M_caller) (M_following) (M_firstCaller) (M_lastCaller) (M_callers) (M_known) (M_loose) (M_stack) (M_high) (M_pairs) (M_told) (M_text) (M_typed) (M_orders) (M_written) (M_look)) zs.heap.size (some (.int (iI ((nCut (M_now) e).1))))) (List.toArray [.ref (o), .int (iI (e))]) zs 0 0 A) (F0 zm 19 ls []) := by
      intro k19
      induction k19 with
      | zero =>
        intro c f hkk hc hq2 H locs ls hW hl
        refine r_iload_n C dX5_cutEdge_19 hl 1 rfl ?_
        refine r_sipush (z := 899) C dX5_cutEdge_20 rfl ?_
        refine r_icmp_ge C 47 dX5_cutEdge_23 (by decide) (by omega) (by omega) (fun hc2 => ?_) (fun hc2 => ?_)
        · skip
          refine r_aload_n C dX5_cutEdge_47 hl 0 rfl ?_
          refine r_get (v := .ref (ad 1)) C f_X5_13 hW.1 0 rfl rfl dX5_cutEdge_48 ?_
          refine r_iconst (z := 2) C dX5_cutEdge_51 rfl ?_
          refine r_dup2 C rfl rfl dX5_cutEdge_52 ?_
          refine r_iald (f := f) C hW.1 2 rfl (Nat.le_of_ble_eq_true rfl) (by omega) dX5_cutEdge_53 ?_
          refine r_iconst (z := 1) C dX5_cutEdge_54 rfl ?_
          refine r_isub C dX5_cutEdge_55 ?_
          refine r_iast (f := f) C hW (mF g o ad (M_refused) (up f 2 ((f 2) - 1)) (M_kept) (M_states) (M_place) (M_startFact) (M_node) (M_fact) (M_ahead) (M_inside) (M_entries) (M_caller) (M_following) (M_firstCaller) (M_lastCaller) (M_callers) (M_known) (M_loose) (M_stack) (M_high) (M_pairs) (M_told) (M_text) (M_typed) (M_orders) (M_written) (M_look)) 2 rfl (Nat.le_of_ble_eq_true rfl) (by omega) rfl dX5_cutEdge_56 (fun H locs hW => ?_)
          refine r_aload_n C dX5_cutEdge_57 hl 0 rfl ?_
          refine r_get (v := .ref (ad 1)) C f_X5_13 hW.1 0 rfl rfl dX5_cutEdge_58 ?_
          refine r_iconst (z := 2) C dX5_cutEdge_61 rfl ?_
          refine r_iald (f := up f 2 ((f 2) - 1)) C hW.1 2 rfl (Nat.le_of_ble_eq_true rfl) (by omega) dX5_cutEdge_62 ?_
          rw [up_s]
          have hE : nCut (M_now) e = ((f 2) - 1, up f 2 ((f 2) - 1)) := by unfold nCut; rw [if_pos (by assumption), show nShift (M_now) e = f from hq2, up_s]
          exact MW_iret C hAe hrt hlk hW dX5_cutEdge_63 (iw (by rw [hE])) (by rw [hE])
        · exact absurd hc2 (by omega)
      | succ k19 ih19 =>
        intro c f hkk hc hq2 H locs ls hW hl
        refine r_iload_n C dX5_cutEdge_19 hl 1 rfl ?_
        refine r_sipush (z := 899) C dX5_cutEdge_20 rfl ?_
        refine r_icmp_ge C 47 dX5_cutEdge_23 (by decide) (by omega) (by omega) (fun hc3 => ?_) (fun hc3 => ?_)
        · exact absurd hc3 (by omega)
        · skip
          refine r_aload_n C dX5_cutEdge_26 hl 0 rfl ?_
          refine r_get (v := .ref (ad 1)) C f_X5_13 hW.1 0 rfl rfl dX5_cutEdge_27 ?_
          refine r_iload_n C dX5_cutEdge_30 hl 1 rfl ?_
          refine r_aload_n C dX5_cutEdge_31 hl 0 rfl ?_
          refine r_get (v := .ref (ad 1)) C f_X5_13 hW.1 0 rfl rfl dX5_cutEdge_32 ?_
          refine r_iload_n C dX5_cutEdge_35 hl 1 rfl ?_
          refine r_bipush (z := 27) C dX5_cutEdge_36 rfl ?_
          refine r_iadd C dX5_cutEdge_38 ?_
          refine r_iald (f := f) C hW.1 2 rfl (Nat.le_of_ble_eq_true rfl) (by omega) dX5_cutEdge_39 ?_
          refine r_iast (f := f) C hW (mF g o ad (M_refused) (up f c (f (c + 27))) (M_kept) (M_states) (M_place) (M_startFact) (M_node) (M_fact) (M_ahead) (M_inside) (M_entries) (M_caller) (M_following) (M_firstCaller) (M_lastCaller) (M_callers) (M_known) (M_loose) (M_stack) (M_high) (M_pairs) (M_told) (M_text) (M_typed) (M_orders) (M_written) (M_look)) 2 rfl (Nat.le_of_ble_eq_true rfl) (by omega) rfl dX5_cutEdge_40 (fun H locs hW => ?_)
          refine r_iinc (v := c + 1) C [(2, .int (iI (c + 1))), (0, .ref (o))] dX5_cutEdge_41 hl 1 rfl (by decide) (by omega) rfl (fun ls hl => ?_)
          refine r_goto C 19 dX5_cutEdge_44 (by decide) ?_
          exact ih19 _ _ (by omega) (by omega) (by rw [hq2, it_s]) _ _ ls hW (lv_sub hl [1, 0] rfl)
    exact hloop19 (899 - (62 + 27 * e)).toNat (62 + 27 * e) _ (by omega) (by omega) rfl _ _ ls hW (lv_sub hl [1, 0] rfl)
  · skip
    refine r_bipush (z := -2) C dX5_cutEdge_8 rfl ?_
    have hE : nCut (M_now) e = (-2, M_now) := if_neg (by assumption)
    exact MW_iret C hAe hrt hlk hW dX5_cutEdge_10 (iw (by rw [hE])) (by rw [hE])
set_option maxHeartbeats 4000000 in
set_option maxRecDepth 100000 in
theorem c_X5_done (l : Launch) (g : GG) (o : Nat) (ad : Nat → Nat) (M_refused : (Int → Int)) (M_now : (Int → Int)) (M_kept : (Int → Int)) (M_states : Int) (M_place : (Int → Int)) (M_startFact : (Int → Int)) (M_node : (Int → Int)) (M_fact : (Int → Int)) (M_ahead : (Int → Int)) (M_inside : (Int → Int)) (M_entries : Int) (M_caller : (Int → Int)) (M_following : (Int → Int)) (M_firstCaller : (Int → Int)) (M_lastCaller : (Int → Int)) (M_callers : Int) (M_known : Int) (M_loose : (Int → Int)) (M_stack : (Int → Int)) (M_high : Int) (M_pairs : (Int → Int)) (M_told : Int) (M_text : (Int → Int)) (M_typed : Int) (M_orders : (Int → Int)) (M_written : Int) (M_look : Int) (w : Int) (hM : mOk (M_refused, M_now, M_kept, M_states, M_place, M_startFact, M_node, M_fact, M_ahead, M_inside, M_entries, M_caller, M_following, M_firstCaller, M_lastCaller, M_callers, M_known, M_loose, M_stack, M_high, M_pairs, M_told, M_text, M_typed, M_orders, M_written, M_look)) (h_w : rg w) : MW l g yX5_done cX5_done 2 (some .int) 2 41 [.ref (o), .int (iI (w))] (mF g o ad (M_refused) (M_now) (M_kept) (M_states) (M_place) (M_startFact) (M_node) (M_fact) (M_ahead) (M_inside) (M_entries) (M_caller) (M_following) (M_firstCaller) (M_lastCaller) (M_callers) (M_known) (M_loose) (M_stack) (M_high) (M_pairs) (M_told) (M_text) (M_typed) (M_orders) (M_written) (M_look)) (mF g o ad (m_refused (mDone w (M_refused, M_now, M_kept, M_states, M_place, M_startFact, M_node, M_fact, M_ahead, M_inside, M_entries, M_caller, M_following, M_firstCaller, M_lastCaller, M_callers, M_known, M_loose, M_stack, M_high, M_pairs, M_told, M_text, M_typed, M_orders, M_written, M_look))) (m_now (mDone w (M_refused, M_now, M_kept, M_states, M_place, M_startFact, M_node, M_fact, M_ahead, M_inside, M_entries, M_caller, M_following, M_firstCaller, M_lastCaller, M_callers, M_known, M_loose, M_stack, M_high, M_pairs, M_told, M_text, M_typed, M_orders, M_written, M_look))) (m_kept (mDone w (M_refused, M_now, M_kept, M_states, M_place, M_startFact, M_node, M_fact, M_ahead, M_inside, M_entries, M_caller, M_following, M_firstCaller, M_lastCaller, M_callers, M_known, M_loose, M_stack, M_high, M_pairs, M_told, M_text, M_typed, M_orders, M_written, M_look))) (m_states (mDone w (M_refused, M_now, M_kept, M_states, M_place, M_startFact, M_node, M_fact, M_ahead, M_inside, M_entries, M_caller, M_following, M_firstCaller, M_lastCaller, M_callers, M_known, M_loose, M_stack, M_high, M_pairs, M_told, M_text, M_typed, M_orders, M_written, M_look))) (m_place (mDone w (M_refused, M_now, M_kept, M_states, M_place, M_startFact, M_node, M_fact, M_ahead, M_inside, M_entries, M_caller, M_following, M_firstCaller, M_lastCaller, M_callers, M_known, M_loose, M_stack, M_high, M_pairs, M_told, M_text, M_typed, M_orders, M_written, M_look))) (m_startFact (mDone w (M_refused, M_now, M_kept, M_states, M_place, M_startFact, M_node, M_fact, M_ahead, M_inside, M_entries, M_caller, M_following, M_firstCaller, M_lastCaller, M_callers, M_known, M_loose, M_stack, M_high, M_pairs, M_told, M_text, M_typed, M_orders, M_written, M_look))) (m_node (mDone w (M_refused, M_now, M_kept, M_states, M_place, M_startFact, M_node, M_fact, M_ahead, M_inside, M_entries, M_caller, M_following, M_firstCaller, M_lastCaller, M_callers, M_known, M_loose, M_stack, M_high, M_pairs, M_told, M_text, M_typed, M_orders, M_written, M_look))) (m_fact (mDone w (M_refused, M_now, M_kept, M_states, M_place, M_startFact, M_node, M_fact, M_ahead, M_inside, M_entries, M_caller, M_following, M_firstCaller, M_lastCaller, M_callers, M_known, M_loose, M_stack, M_high, M_pairs, M_told, M_text, M_typed, M_orders, M_written, M_look))) (m_ahead (mDone w (M_refused, M_now, M_kept, M_states, M_place, M_startFact, M_node, M_fact, M_ahead, M_inside, M_entries, M_caller, M_following, M_firstCaller, M_lastCaller, M_callers, M_known, M_loose, M_stack, M_high, M_pairs, M_told, M_text, M_typed, M_orders, M_written, M_look))) (m_inside (mDone w (M_refused, M_now, M_kept, M_states, M_place, M_startFact, M_node, M_fact, M_ahead, M_inside, M_entries, M_caller, M_following, M_firstCaller, M_lastCaller, M_callers, M_known, M_loose, M_stack, M_high, M_pairs, M_told, M_text, M_typed, M_orders, M_written, M_look))) (m_entries (mDone w (M_refused, M_now, M_kept, M_states, M_place, M_startFact, M_node, M_fact, M_ahead, M_inside, M_entries, M_caller, M_following, M_firstCaller, M_lastCaller, M_callers, M_known, M_loose, M_stack, M_high, M_pairs, M_told, M_text, M_typed, M_orders, M_written, M_look))) (m_caller (mDone w (M_refused, M_now, M_kept, M_states, M_place, M_startFact, M_node, M_fact, M_ahead, M_inside, M_entries, M_caller, M_following, M_firstCaller, M_lastCaller, M_callers, M_known, M_loose, M_stack, M_high, M_pairs, M_told, M_text, M_typed, M_orders, M_written, M_look))) (m_following (mDone w (M_refused, M_now, M_kept, M_states, M_place, M_startFact, M_node, M_fact, M_ahead, M_inside, M_entries, M_caller, M_following, M_firstCaller, M_lastCaller, M_callers, M_known, M_loose, M_stack, M_high, M_pairs, M_told, M_text, M_typed, M_orders, M_written, M_look))) (m_firstCaller (mDone w (M_refused, M_now, M_kept, M_states, M_place, M_startFact, M_node, M_fact, M_ahead, M_inside, M_entries, M_caller, M_following, M_firstCaller, M_lastCaller, M_callers, M_known, M_loose, M_stack, M_high, M_pairs, M_told, M_text, M_typed, M_orders, M_written, M_look))) (m_lastCaller (mDone w (M_refused, M_now, M_kept, M_states, M_place, M_startFact, M_node, M_fact, M_ahead, M_inside, M_entries, M_caller, M_following, M_firstCaller, M_lastCaller, M_callers, M_known, M_loose, M_stack, M_high, M_pairs, M_told, M_text, M_typed, M_orders, M_written, M_look))) (m_callers (mDone w (M_refused, M_now, M_kept, M_states, M_place, M_startFact, M_node, M_fact, M_ahead, M_inside, M_entries, M_caller, M_following, M_firstCaller, M_lastCaller, M_callers, M_known, M_loose, M_stack, M_high, M_pairs, M_told, M_text, M_typed, M_orders, M_written, M_look))) (m_known (mDone w (M_refused, M_now, M_kept, M_states, M_place, M_startFact, M_node, M_fact, M_ahead, M_inside, M_entries, M_caller, M_following, M_firstCaller, M_lastCaller, M_callers, M_known, M_loose, M_stack, M_high, M_pairs, M_told, M_text, M_typed, M_orders, M_written, M_look))) (m_loose (mDone w (M_refused, M_now, M_kept, M_states, M_place, M_startFact, M_node, M_fact, M_ahead, M_inside, M_entries, M_caller, M_following, M_firstCaller, M_lastCaller, M_callers, M_known, M_loose, M_stack, M_high, M_pairs, M_told, M_text, M_typed, M_orders, M_written, M_look))) (m_stack (mDone w (M_refused, M_now, M_kept, M_states, M_place, M_startFact, M_node, M_fact, M_ahead, M_inside, M_entries, M_caller, M_following, M_firstCaller, M_lastCaller, M_callers, M_known, M_loose, M_stack, M_high, M_pairs, M_told, M_text, M_typed, M_orders, M_written, M_look))) (m_high (mDone w (M_refused, M_now, M_kept, M_states, M_place, M_startFact, M_node, M_fact, M_ahead, M_inside, M_entries, M_caller, M_following, M_firstCaller, M_lastCaller, M_callers, M_known, M_loose, M_stack, M_high, M_pairs, M_told, M_text, M_typed, M_orders, M_written, M_look))) (m_pairs (mDone w (M_refused, M_now, M_kept, M_states, M_place, M_startFact, M_node, M_fact, M_ahead, M_inside, M_entries, M_caller, M_following, M_firstCaller, M_lastCaller, M_callers, M_known, M_loose, M_stack, M_high, M_pairs, M_told, M_text, M_typed, M_orders, M_written, M_look))) (m_told (mDone w (M_refused, M_now, M_kept, M_states, M_place, M_startFact, M_node, M_fact, M_ahead, M_inside, M_entries, M_caller, M_following, M_firstCaller, M_lastCaller, M_callers, M_known, M_loose, M_stack, M_high, M_pairs, M_told, M_text, M_typed, M_orders, M_written, M_look))) (m_text (mDone w (M_refused, M_now, M_kept, M_states, M_place, M_startFact, M_node, M_fact, M_ahead, M_inside, M_entries, M_caller, M_following, M_firstCaller, M_lastCaller, M_callers, M_known, M_loose, M_stack, M_high, M_pairs, M_told, M_text, M_typed, M_orders, M_written, M_look))) (m_typed (mDone w (M_refused, M_now, M_kept, M_states, M_place, M_startFact, M_node, M_fact, M_ahead, M_inside, M_entries, M_caller, M_following, M_firstCaller, M_lastCaller, M_callers, M_known, M_loose, M_stack, M_high, M_pairs, M_told, M_text, M_typed, M_orders, M_written, M_look))) (m_orders (mDone w (M_refused, M_now, M_kept, M_states, M_place, M_startFact, M_node, M_fact, M_ahead, M_inside, M_entries, M_caller, M_following, M_firstCaller, M_lastCaller, M_callers, M_known, M_loose, M_stack, M_high, M_pairs, M_told, M_text, M_typed, M_orders, M_written, M_look))) (m_written (mDone w (M_refused, M_now, M_kept, M_states, M_place, M_startFact, M_node, M_fact, M_ahead, M_inside, M_entries, M_caller, M_following, M_firstCaller, M_lastCaller, M_callers, M_known, M_loose, M_stack, M_high, M_pairs, M_told, M_text, M_typed, M_orders, M_written, M_look))) (m_look (mDone w (M_refused, M_now, M_kept, M_states, M_place, M_startFact, M_node, M_fact, M_ahead, M_inside, M_entries, M_caller, M_following, M_firstCaller, M_lastCaller, M_callers, M_known, M_loose, M_stack, M_high, M_pairs, M_told, M_text, M_typed, M_orders, M_written, M_look)))) (some (.int (iI (w)))) := by
  refine MW_start (by decide) (Nat.le_of_ble_eq_true rfl) ?_
  intro zp ze zs zm zb zt zc A hAe C hrt hlk hW ls hl
  have hA : ∀ q, zs.heap.size ≤ q → A q := fun q h => by rw [hAe]; exact Or.inr h
  have hl : lv_has ls 2 [(0, .ref (o)), (1, .int (iI (w)))] := hl
  have hM_refused : ∀ j : Int, 0 ≤ j → j < 3 → 0 ≤ M_refused j ∧ M_refused j ≤ 1000000 := hM.1
  have hM_states : 0 ≤ M_states ∧ M_states ≤ 5 := hM.2.1
  have hM_place : ∀ j : Int, 0 ≤ j → j < 1536 → 0 ≤ M_place j ∧ M_place j ≤ 1536 := hM.2.2.1
  have hM_startFact : ∀ j : Int, 0 ≤ j → j < 1536 → 0 ≤ M_startFact j ∧ M_startFact j ≤ 7 := hM.2.2.2.1
  have hM_node : ∀ j : Int, 0 ≤ j → j < 1536 → 0 ≤ M_node j ∧ M_node j ≤ 23 := hM.2.2.2.2.1
  have hM_fact : ∀ j : Int, 0 ≤ j → j < 1536 → 0 ≤ M_fact j ∧ M_fact j ≤ 7 := hM.2.2.2.2.2.1
  have hM_ahead : ∀ j : Int, 0 ≤ j → j < 1536 → -1 ≤ M_ahead j ∧ M_ahead j ≤ 1535 := hM.2.2.2.2.2.2.1
  have hM_inside : ∀ j : Int, 0 ≤ j → j < 1536 → -1 ≤ M_inside j ∧ M_inside j ≤ 1535 := hM.2.2.2.2.2.2.2.1
  have hM_entries : 0 ≤ M_entries ∧ M_entries ≤ 1536 := hM.2.2.2.2.2.2.2.2.1
  have hM_caller : ∀ j : Int, 0 ≤ j → j < 16384 → 0 ≤ M_caller j ∧ M_caller j ≤ 49151 := hM.2.2.2.2.2.2.2.2.2.1
  have hM_following : ∀ j : Int, 0 ≤ j → j < 16384 → -1 ≤ M_following j ∧ M_following j ≤ 16383 := hM.2.2.2.2.2.2.2.2.2.2.1
  have hM_firstCaller : ∀ j : Int, 0 ≤ j → j < 40 → -1 ≤ M_firstCaller j ∧ M_firstCaller j ≤ 16383 := hM.2.2.2.2.2.2.2.2.2.2.2.1
  have hM_lastCaller : ∀ j : Int, 0 ≤ j → j < 40 → -1 ≤ M_lastCaller j ∧ M_lastCaller j ≤ 16383 := hM.2.2.2.2.2.2.2.2.2.2.2.2.1
  have hM_callers : 0 ≤ M_callers ∧ M_callers ≤ 16384 := hM.2.2.2.2.2.2.2.2.2.2.2.2.2.1
  have hM_known : 0 ≤ M_known ∧ M_known ≤ 1 := hM.2.2.2.2.2.2.2.2.2.2.2.2.2.2.1
  have hM_loose : ∀ j : Int, 0 ≤ j → j < 24 → 0 ≤ M_loose j ∧ M_loose j ≤ 255 := hM.2.2.2.2.2.2.2.2.2.2.2.2.2.2.2.1
  have hM_stack : ∀ j : Int, 0 ≤ j → j < 8000 → 0 ≤ M_stack j ∧ M_stack j ≤ 6143 := hM.2.2.2.2.2.2.2.2.2.2.2.2.2.2.2.2.1
  have hM_high : 0 ≤ M_high ∧ M_high ≤ 8000 := hM.2.2.2.2.2.2.2.2.2.2.2.2.2.2.2.2.2.1
  have hM_pairs : ∀ j : Int, 0 ≤ j → j < 1000 → 0 ≤ M_pairs j ∧ M_pairs j ≤ 239 := hM.2.2.2.2.2.2.2.2.2.2.2.2.2.2.2.2.2.2.1
  have hM_told : 0 ≤ M_told ∧ M_told ≤ 1000 := hM.2.2.2.2.2.2.2.2.2.2.2.2.2.2.2.2.2.2.2.1
  have hM_text : ∀ j : Int, 0 ≤ j → j < 120 → 0 ≤ M_text j ∧ M_text j ≤ 127 := hM.2.2.2.2.2.2.2.2.2.2.2.2.2.2.2.2.2.2.2.2.1
  have hM_typed : 0 ≤ M_typed ∧ M_typed ≤ 120 := hM.2.2.2.2.2.2.2.2.2.2.2.2.2.2.2.2.2.2.2.2.2.1
  have hM_orders : ∀ j : Int, 0 ≤ j → j < 300 → 0 ≤ M_orders j ∧ M_orders j ≤ 999 := hM.2.2.2.2.2.2.2.2.2.2.2.2.2.2.2.2.2.2.2.2.2.2.1
  have hM_written : 0 ≤ M_written ∧ M_written ≤ 60 := hM.2.2.2.2.2.2.2.2.2.2.2.2.2.2.2.2.2.2.2.2.2.2.2.1
  have hM_look : 0 ≤ M_look ∧ M_look ≤ 120 := hM.2.2.2.2.2.2.2.2.2.2.2.2.2.2.2.2.2.2.2.2.2.2.2.2
  refine r_iload_n C dX5_done_0 hl 1 rfl ?_
  refine r_if_ge C 10 dX5_done_1 (by decide) (by omega) (fun hc1 => ?_) (fun hc1 => ?_)
  · skip
    refine r_aload_n C dX5_done_10 hl 0 rfl ?_
    refine r_callW (rest := []) (r := none) (wr := []) (ws2 := mF g o ad (m_refused (mLeave (M_refused, M_now, M_kept, M_states, M_place, M_startFact, M_node, M_fact, M_ahead, M_inside, M_entries, M_caller, M_following, M_firstCaller, M_lastCaller, M_callers, M_known, M_loose, M_stack, M_high, M_pairs, M_told, M_text, M_typed, M_orders, M_written, M_look))) (m_now (mLeave (M_refused, M_now, M_kept, M_states, M_place, M_startFact, M_node, M_fact, M_ahead, M_inside, M_entries, M_caller, M_following, M_firstCaller, M_lastCaller, M_callers, M_known, M_loose, M_stack, M_high, M_pairs, M_told, M_text, M_typed, M_orders, M_written, M_look))) (m_kept (mLeave (M_refused, M_now, M_kept, M_states, M_place, M_startFact, M_node, M_fact, M_ahead, M_inside, M_entries, M_caller, M_following, M_firstCaller, M_lastCaller, M_callers, M_known, M_loose, M_stack, M_high, M_pairs, M_told, M_text, M_typed, M_orders, M_written, M_look))) (m_states (mLeave (M_refused, M_now, M_kept, M_states, M_place, M_startFact, M_node, M_fact, M_ahead, M_inside, M_entries, M_caller, M_following, M_firstCaller, M_lastCaller, M_callers, M_known, M_loose, M_stack, M_high, M_pairs, M_told, M_text, M_typed, M_orders, M_written, M_look))) (m_place (mLeave (M_refused, M_now, M_kept, M_states, M_place, M_startFact, M_node, M_fact, M_ahead, M_inside, M_entries, M_caller, M_following, M_firstCaller, M_lastCaller, M_callers, M_known, M_loose, M_stack, M_high, M_pairs, M_told, M_text, M_typed, M_orders, M_written, M_look))) (m_startFact (mLeave (M_refused, M_now, M_kept, M_states, M_place, M_startFact, M_node, M_fact, M_ahead, M_inside, M_entries, M_caller, M_following, M_firstCaller, M_lastCaller, M_callers, M_known, M_loose, M_stack, M_high, M_pairs, M_told, M_text, M_typed, M_orders, M_written, M_look))) (m_node (mLeave (M_refused, M_now, M_kept, M_states, M_place, M_startFact, M_node, M_fact, M_ahead, M_inside, M_entries, M_caller, M_following, M_firstCaller, M_lastCaller, M_callers, M_known, M_loose, M_stack, M_high, M_pairs, M_told, M_text, M_typed, M_orders, M_written, M_look))) (m_fact (mLeave (M_refused, M_now, M_kept, M_states, M_place, M_startFact, M_node, M_fact, M_ahead, M_inside, M_entries, M_caller, M_following, M_firstCaller, M_lastCaller, M_callers, M_known, M_loose, M_stack, M_high, M_pairs, M_told, M_text, M_typed, M_orders, M_written, M_look))) (m_ahead (mLeave (M_refused, M_now, M_kept, M_states, M_place, M_startFact, M_node, M_fact, M_ahead, M_inside, M_entries, M_caller, M_following, M_firstCaller, M_lastCaller, M_callers, M_known, M_loose, M_stack, M_high, M_pairs, M_told, M_text, M_typed, M_orders, M_written, M_look))) (m_inside (mLeave (M_refused, M_now, M_kept, M_states, M_place, M_startFact, M_node, M_fact, M_ahead, M_inside, M_entries, M_caller, M_following, M_firstCaller, M_lastCaller, M_callers, M_known, M_loose, M_stack, M_high, M_pairs, M_told, M_text, M_typed, M_orders, M_written, M_look))) (m_entries (mLeave (M_refused, M_now, M_kept, M_states, M_place, M_startFact, M_node, M_fact, M_ahead, M_inside, M_entries, M_caller, M_following, M_firstCaller, M_lastCaller, M_callers, M_known, M_loose, M_stack, M_high, M_pairs, M_told, M_text, M_typed, M_orders, M_written, M_look))) (m_caller (mLeave (M_refused, M_now, M_kept, M_states, M_place, M_startFact, M_node, M_fact, M_ahead, M_inside, M_entries, M_caller, M_following, M_firstCaller, M_lastCaller, M_callers, M_known, M_loose, M_stack, M_high, M_pairs, M_told, M_text, M_typed, M_orders, M_written, M_look))) (m_following (mLeave (M_refused, M_now, M_kept, M_states, M_place, M_startFact, M_node, M_fact, M_ahead, M_inside, M_entries, M_caller, M_following, M_firstCaller, M_lastCaller, M_callers, M_known, M_loose, M_stack, M_high, M_pairs, M_told, M_text, M_typed, M_orders, M_written, M_look))) (m_firstCaller (mLeave (M_refused, M_now, M_kept, M_states, M_place, M_startFact, M_node, M_fact, M_ahead, M_inside, M_entries, M_caller, M_following, M_firstCaller, M_lastCaller, M_callers, M_known, M_loose, M_stack, M_high, M_pairs, M_told, M_text, M_typed, M_orders, M_written, M_look))) (m_lastCaller (mLeave (M_refused, M_now, M_kept, M_states, M_place, M_startFact, M_node, M_fact, M_ahead, M_inside, M_entries, M_caller, M_following, M_firstCaller, M_lastCaller, M_callers, M_known, M_loose, M_stack, M_high, M_pairs, M_told, M_text, M_typed, M_orders, M_written, M_look))) (m_callers (mLeave (M_refused, M_now, M_kept, M_states, M_place, M_startFact, M_node, M_fact, M_ahead, M_inside, M_entries, M_caller, M_following, M_firstCaller, M_lastCaller, M_callers, M_known, M_loose, M_stack, M_high, M_pairs, M_told, M_text, M_typed, M_orders, M_written, M_look))) (m_known (mLeave (M_refused, M_now, M_kept, M_states, M_place, M_startFact, M_node, M_fact, M_ahead, M_inside, M_entries, M_caller, M_following, M_firstCaller, M_lastCaller, M_callers, M_known, M_loose, M_stack, M_high, M_pairs, M_told, M_text, M_typed, M_orders, M_written, M_look))) (m_loose (mLeave (M_refused, M_now, M_kept, M_states, M_place, M_startFact, M_node, M_fact, M_ahead, M_inside, M_entries, M_caller, M_following, M_firstCaller, M_lastCaller, M_callers, M_known, M_loose, M_stack, M_high, M_pairs, M_told, M_text, M_typed, M_orders, M_written, M_look))) (m_stack (mLeave (M_refused, M_now, M_kept, M_states, M_place, M_startFact, M_node, M_fact, M_ahead, M_inside, M_entries, M_caller, M_following, M_firstCaller, M_lastCaller, M_callers, M_known, M_loose, M_stack, M_high, M_pairs, M_told, M_text, M_typed, M_orders, M_written, M_look))) (m_high (mLeave (M_refused, M_now, M_kept, M_states, M_place, M_startFact, M_node, M_fact, M_ahead, M_inside, M_entries, M_caller, M_following, M_firstCaller, M_lastCaller, M_callers, M_known, M_loose, M_stack, M_high, M_pairs, M_told, M_text, M_typed, M_orders, M_written, M_look))) (m_pairs (mLeave (M_refused, M_now, M_kept, M_states, M_place, M_startFact, M_node, M_fact, M_ahead, M_inside, M_entries, M_caller, M_following, M_firstCaller, M_lastCaller, M_callers, M_known, M_loose, M_stack, M_high, M_pairs, M_told, M_text, M_typed, M_orders, M_written, M_look))) (m_told (mLeave (M_refused, M_now, M_kept, M_states, M_place, M_startFact, M_node, M_fact, M_ahead, M_inside, M_entries, M_caller, M_following, M_firstCaller, M_lastCaller, M_callers, M_known, M_loose, M_stack, M_high, M_pairs, M_told, M_text, M_typed, M_orders, M_written, M_look))) (m_text (mLeave (M_refused, M_now, M_kept, M_states, M_place, M_startFact, M_node, M_fact, M_ahead, M_inside, M_entries, M_caller, M_following, M_firstCaller, M_lastCaller, M_callers, M_known, M_loose, M_stack, M_high, M_pairs, M_told, M_text, M_typed, M_orders, M_written, M_look))) (m_typed (mLeave (M_refused, M_now, M_kept, M_states, M_place, M_startFact, M_node, M_fact, M_ahead, M_inside, M_entries, M_caller, M_following, M_firstCaller, M_lastCaller, M_callers, M_known, M_loose, M_stack, M_high, M_pairs, M_told, M_text, M_typed, M_orders, M_written, M_look))) (m_orders (mLeave (M_refused, M_now, M_kept, M_states, M_place, M_startFact, M_node, M_fact, M_ahead, M_inside, M_entries, M_caller, M_following, M_firstCaller, M_lastCaller, M_callers, M_known, M_loose, M_stack, M_high, M_pairs, M_told, M_text, M_typed, M_orders, M_written, M_look))) (m_written (mLeave (M_refused, M_now, M_kept, M_states, M_place, M_startFact, M_node, M_fact, M_ahead, M_inside, M_entries, M_caller, M_following, M_firstCaller, M_lastCaller, M_callers, M_known, M_loose, M_stack, M_high, M_pairs, M_told, M_text, M_typed, M_orders, M_written, M_look))) (m_look (mLeave (M_refused, M_now, M_kept, M_states, M_place, M_startFact, M_node, M_fact, M_ahead, M_inside, M_entries, M_caller, M_following, M_firstCaller, M_lastCaller, M_callers, M_known, M_loose, M_stack, M_high, M_pairs, M_told, M_text, M_typed, M_orders, M_written, M_look)))) (st1 := []) C hl.1 hW hA (c_X5_leavesState l g o ad (M_refused) (M_now) (M_kept) (M_states) (M_place) (M_startFact) (M_node) (M_fact) (M_ahead) (M_inside) (M_entries) (M_caller) (M_following) (M_firstCaller) (M_lastCaller) (M_callers) (M_known) (M_loose) (M_stack) (M_high) (M_pairs) (M_told) (M_text) (M_typed) (M_orders) (M_written) (M_look)  (by assumption)) v_X5_130 rfl [0, 1, 2, 3, 4, 5, 6, 7, 8, 9, 10, 11, 12, 13, 14, 15, 16, 17, 18] [] [0, 1, 2, 3, 4, 5, 6, 7, 8, 9, 10, 11, 12, 13, 14, 15, 16, 17, 18] rfl rfl (by decide) (by decide) rfl rfl 0 rfl rfl rfl (by decide) (by decide) (Nat.le_of_ble_eq_true rfl) dX5_done_11 rfl rfl (fun H locs hW => ?_)
    refine r_iload_n C dX5_done_14 hl 1 rfl ?_
    exact MW_iret C hAe hrt hlk hW dX5_done_15 (iw rfl) (by unfold mDone; rw [if_neg (by omega)])
  · skip
    refine r_aload_n C dX5_done_4 hl 0 rfl ?_
    refine r_iload_n C dX5_done_5 hl 1 rfl ?_
    refine r_callW (rest := []) (r := some (.int (iI (w)))) (wr := []) (ws2 := mF g o ad (m_refused (mCounted w (M_refused, M_now, M_kept, M_states, M_place, M_startFact, M_node, M_fact, M_ahead, M_inside, M_entries, M_caller, M_following, M_firstCaller, M_lastCaller, M_callers, M_known, M_loose, M_stack, M_high, M_pairs, M_told, M_text, M_typed, M_orders, M_written, M_look))) (m_now (mCounted w (M_refused, M_now, M_kept, M_states, M_place, M_startFact, M_node, M_fact, M_ahead, M_inside, M_entries, M_caller, M_following, M_firstCaller, M_lastCaller, M_callers, M_known, M_loose, M_stack, M_high, M_pairs, M_told, M_text, M_typed, M_orders, M_written, M_look))) (m_kept (mCounted w (M_refused, M_now, M_kept, M_states, M_place, M_startFact, M_node, M_fact, M_ahead, M_inside, M_entries, M_caller, M_following, M_firstCaller, M_lastCaller, M_callers, M_known, M_loose, M_stack, M_high, M_pairs, M_told, M_text, M_typed, M_orders, M_written, M_look))) (m_states (mCounted w (M_refused, M_now, M_kept, M_states, M_place, M_startFact, M_node, M_fact, M_ahead, M_inside, M_entries, M_caller, M_following, M_firstCaller, M_lastCaller, M_callers, M_known, M_loose, M_stack, M_high, M_pairs, M_told, M_text, M_typed, M_orders, M_written, M_look))) (m_place (mCounted w (M_refused, M_now, M_kept, M_states, M_place, M_startFact, M_node, M_fact, M_ahead, M_inside, M_entries, M_caller, M_following, M_firstCaller, M_lastCaller, M_callers, M_known, M_loose, M_stack, M_high, M_pairs, M_told, M_text, M_typed, M_orders, M_written, M_look))) (m_startFact (mCounted w (M_refused, M_now, M_kept, M_states, M_place, M_startFact, M_node, M_fact, M_ahead, M_inside, M_entries, M_caller, M_following, M_firstCaller, M_lastCaller, M_callers, M_known, M_loose, M_stack, M_high, M_pairs, M_told, M_text, M_typed, M_orders, M_written, M_look))) (m_node (mCounted w (M_refused, M_now, M_kept, M_states, M_place, M_startFact, M_node, M_fact, M_ahead, M_inside, M_entries, M_caller, M_following, M_firstCaller, M_lastCaller, M_callers, M_known, M_loose, M_stack, M_high, M_pairs, M_told, M_text, M_typed, M_orders, M_written, M_look))) (m_fact (mCounted w (M_refused, M_now, M_kept, M_states, M_place, M_startFact, M_node, M_fact, M_ahead, M_inside, M_entries, M_caller, M_following, M_firstCaller, M_lastCaller, M_callers, M_known, M_loose, M_stack, M_high, M_pairs, M_told, M_text, M_typed, M_orders, M_written, M_look))) (m_ahead (mCounted w (M_refused, M_now, M_kept, M_states, M_place, M_startFact, M_node, M_fact, M_ahead, M_inside, M_entries, M_caller, M_following, M_firstCaller, M_lastCaller, M_callers, M_known, M_loose, M_stack, M_high, M_pairs, M_told, M_text, M_typed, M_orders, M_written, M_look))) (m_inside (mCounted w (M_refused, M_now, M_kept, M_states, M_place, M_startFact, M_node, M_fact, M_ahead, M_inside, M_entries, M_caller, M_following, M_firstCaller, M_lastCaller, M_callers, M_known, M_loose, M_stack, M_high, M_pairs, M_told, M_text, M_typed, M_orders, M_written, M_look))) (m_entries (mCounted w (M_refused, M_now, M_kept, M_states, M_place, M_startFact, M_node, M_fact, M_ahead, M_inside, M_entries, M_caller, M_following, M_firstCaller, M_lastCaller, M_callers, M_known, M_loose, M_stack, M_high, M_pairs, M_told, M_text, M_typed, M_orders, M_written, M_look))) (m_caller (mCounted w (M_refused, M_now, M_kept, M_states, M_place, M_startFact, M_node, M_fact, M_ahead, M_inside, M_entries, M_caller, M_following, M_firstCaller, M_lastCaller, M_callers, M_known, M_loose, M_stack, M_high, M_pairs, M_told, M_text, M_typed, M_orders, M_written, M_look))) (m_following (mCounted w (M_refused, M_now, M_kept, M_states, M_place, M_startFact, M_node, M_fact, M_ahead, M_inside, M_entries, M_caller, M_following, M_firstCaller, M_lastCaller, M_callers, M_known, M_loose, M_stack, M_high, M_pairs, M_told, M_text, M_typed, M_orders, M_written, M_look))) (m_firstCaller (mCounted w (M_refused, M_now, M_kept, M_states, M_place, M_startFact, M_node, M_fact, M_ahead, M_inside, M_entries, M_caller, M_following, M_firstCaller, M_lastCaller, M_callers, M_known, M_loose, M_stack, M_high, M_pairs, M_told, M_text, M_typed, M_orders, M_written, M_look))) (m_lastCaller (mCounted w (M_refused, M_now, M_kept, M_states, M_place, M_startFact, M_node, M_fact, M_ahead, M_inside, M_entries, M_caller, M_following, M_firstCaller, M_lastCaller, M_callers, M_known, M_loose, M_stack, M_high, M_pairs, M_told, M_text, M_typed, M_orders, M_written, M_look))) (m_callers (mCounted w (M_refused, M_now, M_kept, M_states, M_place, M_startFact, M_node, M_fact, M_ahead, M_inside, M_entries, M_caller, M_following, M_firstCaller, M_lastCaller, M_callers, M_known, M_loose, M_stack, M_high, M_pairs, M_told, M_text, M_typed, M_orders, M_written, M_look))) (m_known (mCounted w (M_refused, M_now, M_kept, M_states, M_place, M_startFact, M_node, M_fact, M_ahead, M_inside, M_entries, M_caller, M_following, M_firstCaller, M_lastCaller, M_callers, M_known, M_loose, M_stack, M_high, M_pairs, M_told, M_text, M_typed, M_orders, M_written, M_look))) (m_loose (mCounted w (M_refused, M_now, M_kept, M_states, M_place, M_startFact, M_node, M_fact, M_ahead, M_inside, M_entries, M_caller, M_following, M_firstCaller, M_lastCaller, M_callers, M_known, M_loose, M_stack, M_high, M_pairs, M_told, M_text, M_typed, M_orders, M_written, M_look))) (m_stack (mCounted w (M_refused, M_now, M_kept, M_states, M_place, M_startFact, M_node, M_fact, M_ahead, M_inside, M_entries, M_caller, M_following, M_firstCaller, M_lastCaller, M_callers, M_known, M_loose, M_stack, M_high, M_pairs, M_told, M_text, M_typed, M_orders, M_written, M_look))) (m_high (mCounted w (M_refused, M_now, M_kept, M_states, M_place, M_startFact, M_node, M_fact, M_ahead, M_inside, M_entries, M_caller, M_following, M_firstCaller, M_lastCaller, M_callers, M_known, M_loose, M_stack, M_high, M_pairs, M_told, M_text, M_typed, M_orders, M_written, M_look))) (m_pairs (mCounted w (M_refused, M_now, M_kept, M_states, M_place, M_startFact, M_node, M_fact, M_ahead, M_inside, M_entries, M_caller, M_following, M_firstCaller, M_lastCaller, M_callers, M_known, M_loose, M_stack, M_high, M_pairs, M_told, M_text, M_typed, M_orders, M_written, M_look))) (m_told (mCounted w (M_refused, M_now, M_kept, M_states, M_place, M_startFact, M_node, M_fact, M_ahead, M_inside, M_entries, M_caller, M_following, M_firstCaller, M_lastCaller, M_callers, M_known, M_loose, M_stack, M_high, M_pairs, M_told, M_text, M_typed, M_orders, M_written, M_look))) (m_text (mCounted w (M_refused, M_now, M_kept, M_states, M_place, M_startFact, M_node, M_fact, M_ahead, M_inside, M_entries, M_caller, M_following, M_firstCaller, M_lastCaller, M_callers, M_known, M_loose, M_stack, M_high, M_pairs, M_told, M_text, M_typed, M_orders, M_written, M_look))) (m_typed (mCounted w (M_refused, M_now, M_kept, M_states, M_place, M_startFact, M_node, M_fact, M_ahead, M_inside, M_entries, M_caller, M_following, M_firstCaller, M_lastCaller, M_callers, M_known, M_loose, M_stack, M_high, M_pairs, M_told, M_text, M_typed, M_orders, M_written, M_look))) (m_orders (mCounted w (M_refused, M_now, M_kept, M_states, M_place, M_startFact, M_node, M_fact, M_ahead, M_inside, M_entries, M_caller, M_following, M_firstCaller, M_lastCaller, M_callers, M_known, M_loose, M_stack, M_high, M_pairs, M_told, M_text, M_typed, M_orders, M_written, M_look))) (m_written (mCounted w (M_refused, M_now, M_kept, M_states, M_place, M_startFact, M_node, M_fact, M_ahead, M_inside, M_entries, M_caller, M_following, M_firstCaller, M_lastCaller, M_callers, M_known, M_loose, M_stack, M_high, M_pairs, M_told, M_text, M_typed, M_orders, M_written, M_look))) (m_look (mCounted w (M_refused, M_now, M_kept, M_states, M_place, M_startFact, M_node, M_fact, M_ahead, M_inside, M_entries, M_caller, M_following, M_firstCaller, M_lastCaller, M_callers, M_known, M_loose, M_stack, M_high, M_pairs, M_told, M_text, M_typed, M_orders, M_written, M_look)))) (st1 := [.int (iI (w))]) C hl.1 hW hA (c_X5_counted l g o ad (M_refused) (M_now) (M_kept) (M_states) (M_place) (M_startFact) (M_node) (M_fact) (M_ahead) (M_inside) (M_entries) (M_caller) (M_following) (M_firstCaller) (M_lastCaller) (M_callers) (M_known) (M_loose) (M_stack) (M_high) (M_pairs) (M_told) (M_text) (M_typed) (M_orders) (M_written) (M_look) w (show rg w by omega)) v_X5_127 rfl [0, 1, 2, 3, 4, 5, 6, 7, 8, 9, 10, 11, 12, 13, 14, 15, 16, 17, 18] [] [0, 1, 2, 3, 4, 5, 6, 7, 8, 9, 10, 11, 12, 13, 14, 15, 16, 17, 18] rfl rfl (by decide) (by decide) rfl rfl 0 rfl rfl rfl (by decide) (by decide) (Nat.le_of_ble_eq_true rfl) dX5_done_6 rfl rfl (fun H locs hW => ?_)
    exact MW_iret C hAe hrt hlk hW dX5_done_9 (iw rfl) (by unfold mDone; rw [if_pos (by omega)])

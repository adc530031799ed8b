set_option maxHeartbeats 4000000 in
set_option maxRecDepth 100000 in
theorem c_X5_number (l : Launch) (g : GG) (o : Nat) (ad : Nat → Nat) (M_refused : (Int → Int)) (M_now : (Int → Int)) (M_kept : (Int → Int)) (M_states : Int) (M_place : (Int → Int)) (M_startFact : (Int → Int)) (M_node : (Int → Int)) (M_fact : (Int → Int)) (M_ahead : (Int → Int)) (M_inside : (Int → Int)) (M_entries : Int) (M_caller : (Int → Int)) (M_following : (Int → Int)) (M_firstCaller : (Int → Int)) (M_lastCaller : (Int → Int)) (M_callers : Int) (M_known : Int) (M_loose : (Int → Int)) (M_stack : (Int → Int)) (M_high : Int) (M_pairs : (Int → Int)) (M_told : Int) (M_text : (Int → Int)) (M_typed : Int) (M_orders : (Int → Int)) (M_written : Int) (M_look : Int) (hM : mOk (M_refused, M_now, M_kept, M_states, M_place, M_startFact, M_node, M_fact, M_ahead, M_inside, M_entries, M_caller, M_following, M_firstCaller, M_lastCaller, M_callers, M_known, M_loose, M_stack, M_high, M_pairs, M_told, M_text, M_typed, M_orders, M_written, M_look)) (hlo : M_look ≤ M_typed) : MW l g yX5_number cX5_number 3 (some .int) 2 43 [.ref (o)] (mF g o ad (M_refused) (M_now) (M_kept) (M_states) (M_place) (M_startFact) (M_node) (M_fact) (M_ahead) (M_inside) (M_entries) (M_caller) (M_following) (M_firstCaller) (M_lastCaller) (M_callers) (M_known) (M_loose) (M_stack) (M_high) (M_pairs) (M_told) (M_text) (M_typed) (M_orders) (M_written) (M_look)) (mF g o ad (M_refused) (M_now) (M_kept) (M_states) (M_place) (M_startFact) (M_node) (M_fact) (M_ahead) (M_inside) (M_entries) (M_caller) (M_following) (M_firstCaller) (M_lastCaller) (M_callers) (M_known) (M_loose) (M_stack) (M_high) (M_pairs) (M_told) (M_text) (M_typed) (M_orders) (M_written) ((rNum (M_typed) (M_text) (M_look)).2)) (some (.int (iI ((rNum (M_typed) (M_text) (M_look)).1)))) := by
  refine MW_start (by decide) (Nat.le_of_ble_eq_true rfl) ?_
  intro zp ze zs zm zb zt zc A hAe C hrt hlk hW ls hl
  have hA : ∀ q, zs.heap.size ≤ q → A q := fun q h => by rw [hAe]; exact Or.inr h
  have hl : lv_has ls 3 [(0, .ref (o))] := hl
  have hM_refused : ∀ j : Int, 0 ≤ j → j < 3 → 0 ≤ M_refused j ∧ M_refused j ≤ 1000000 := hM.1
  have hM_states : 0 ≤ M_states ∧ M_states ≤ 5 := hM.2.1
  have hM_place : ∀ j : Int, 0 ≤ j → j < 1536 → 0 ≤ M_place j ∧ M_place j ≤ 1536 := hM.2.2.1
  have hM_startFact : ∀ j : Int, 0 ≤ j → j < 1536 → 0 ≤ M_startFact j ∧ M_startFact j ≤ 7 := hM.2.2.2.1
  have hM_node : ∀ j : Int, 0 ≤ j → j < 1536 → 0 ≤ M_node j ∧ M_node j ≤ 23 := hM.2.2.2.2.1
  have hM_fact : ∀ j : Int, 0 ≤ j → j < 1536 → 0 ≤ M_fact j ∧ M_fact j ≤ 7 := hM.2.2.2.2.2.1
  have hM_ahead : ∀ j : Int, 0 ≤ j → j < 1536 → -1 ≤ M_ahead j ∧ M_ahead j ≤ 1535 := hM.2.2.2.2.2.2.1
  have hM_inside : ∀ j : Int, 0 ≤ j → j < 1536 → -1 ≤ M_inside j ∧ M_inside j ≤ 1535 := hM.2.2.2.2.2.2.2.1
  have hM_entries : 0 ≤ M_entries ∧ M_entries ≤ 1536 := hM.2.2.2.2.2.2.2.2.1
  have hM_caller : ∀ j : Int, 0 ≤ j → j < 16384 → 0 ≤ M_caller j ∧ M_caller j ≤ 49151 := hM.2.2.2.2.2.2.2.2.2.1
  have hM_following : ∀ j : Int, 0 ≤ j → j < 16384 → -1 ≤ M_following j ∧ M_following j ≤ 16383 := hM.2.2.2.2.2.2.2.2.2.2.1
  have hM_firstCaller : ∀ j : Int, 0 ≤ j → j < 40 → -1 ≤ M_firstCaller j ∧ M_firstCaller j ≤ 16383 := hM.2.2.2.2.2.2.2.2.2.2.2.1
  have hM_lastCaller : ∀ j : Int, 0 ≤ j → j < 40 → -1 ≤ M_lastCaller j ∧ M_lastCaller j ≤ 16383 := hM.2.2.2.2.2.2.2.2.2.2.2.2.1
  have hM_callers : 0 ≤ M_callers ∧ M_callers ≤ 16384 := hM.2.2.2.2.2.2.2.2.2.2.2.2.2.1
  have hM_known : 0 ≤ M_known ∧ M_known ≤ 1 := hM.2.2.2.2.2.2.2.2.2.2.2.2.2.2.1
  have hM_loose : ∀ j : Int, 0 ≤ j → j < 24 → 0 ≤ M_loose j ∧ M_loose j ≤ 255 := hM.2.2.2.2.2.2.2.2.2.2.2.2.2.2.2.1
  have hM_stack : ∀ j : Int, 0 ≤ j → j < 8000 → 0 ≤ M_stack j ∧ M_stack j ≤ 6143 := hM.2.2.2.2.2.2.2.2.2.2.2.2.2.2.2.2.1
  have hM_high : 0 ≤ M_high ∧ M_high ≤ 8000 := hM.2.2.2.2.2.2.2.2.2.2.2.2.2.2.2.2.2.1
  have hM_pairs : ∀ j : Int, 0 ≤ j → j < 1000 → 0 ≤ M_pairs j ∧ M_pairs j ≤ 239 := hM.2.2.2.2.2.2.2.2.2.2.2.2.2.2.2.2.2.2.1
  have hM_told : 0 ≤ M_told ∧ M_told ≤ 1000 := hM.2.2.2.2.2.2.2.2.2.2.2.2.2.2.2.2.2.2.2.1
  have hM_text : ∀ j : Int, 0 ≤ j → j < 120 → 0 ≤ M_text j ∧ M_text j ≤ 127 := hM.2.2.2.2.2.2.2.2.2.2.2.2.2.2.2.2.2.2.2.2.1
  have hM_typed : 0 ≤ M_typed ∧ M_typed ≤ 120 := hM.2.2.2.2.2.2.2.2.2.2.2.2.2.2.2.2.2.2.2.2.2.1
  have hM_orders : ∀ j : Int, 0 ≤ j → j < 300 → 0 ≤ M_orders j ∧ M_orders j ≤ 999 := hM.2.2.2.2.2.2.2.2.2.2.2.2.2.2.2.2.2.2.2.2.2.2.1
  have hM_written : 0 ≤ M_written ∧ M_written ≤ 60 := hM.2.2.2.2.2.2.2.2.2.2.2.2.2.2.2.2.2.2.2.2.2.2.2.1
  have hM_look : 0 ≤ M_look ∧ M_look ≤ 120 := hM.2.2.2.2.2.2.2.2.2.2.2.2.2.2.2.2.2.2.2.2.2.2.2.2
  refine r_aload_n C dX5_number_0 hl 0 rfl ?_
  refine r_aload_n C dX5_number_1 hl 0 rfl ?_
  refine r_get (v := .int (iI (M_look))) C f_X5_224 hW.1 0 rfl rfl dX5_number_2 ?_
  refine r_callR (rest := []) (r := .int (iI (bI (isFig ((M_typed)) ((M_text)) (M_look))))) C hl.1 (c_X5_isFigure l g o ad (M_refused) (M_now) (M_kept) (M_states) (M_place) (M_startFact) (M_node) (M_fact) (M_ahead) (M_inside) (M_entries) (M_caller) (M_following) (M_firstCaller) (M_lastCaller) (M_callers) (M_known) (M_loose) (M_stack) (M_high) (M_pairs) (M_told) (M_text) (M_typed) (M_orders) (M_written) (M_look) (M_look) (by assumption) (show 0 ≤ (M_look) ∧ (M_look) < 1000 by omega)) v_X5_227 rfl hW.1 0 rfl rfl rfl (by decide) (by decide) (Nat.le_of_ble_eq_true rfl) dX5_number_5 rfl ?_
  refine r_ifb_ne C 13 dX5_number_8 (by decide) (fun hc1 => ?_) (fun hc1 => ?_)
  · skip
    refine r_iconst (z := 0) C dX5_number_13 rfl ?_
    refine r_istore_n C [(1, .int (iI (0))), (0, .ref (o))] dX5_number_14 hl (by decide) rfl (fun ls hl => ?_)
    refine r_iconst (z := 0) C dX5_number_15 rfl ?_
    refine r_istore_n C [(2, .int (iI (0))), (1, .int (iI (0))), (0, .ref (o))] dX5_number_16 hl (by decide) rfl (fun ls hl => ?_)
    have hloop17 : ∀ (k17 : Nat) (q v n : Int) (hkk : n + k17 = 3) (hn : 0 ≤ n) (hq0 : 0 ≤ q ∧ q ≤ M_typed) (hq : dgs (M_typed) (M_text) 3 (M_look) 0 0 = dgs (M_typed) (M_text) k17 q v n) (H : Heap) (locs : List Loc) (ls : Array Slot), HW g A zs.heap (mF g o ad (M_refused) (M_now) (M_kept) (M_states) (M_place) (M_startFact) (M_node) (M_fact) (M_ahead) (M_inside) (M_entries) (M_caller) (M_following) (M_firstCaller) (M_lastCaller) (M_callers) (M_known) (M_loose) (M_stack) (M_high) (M_pairs) (M_told) (M_text) (M_typed) (M_orders) (M_written) q) H locs → lv_has ls 3 [(0, .ref (o)), (1, .int (iI (v))), (2, .int (iI (n)))] → W zp l ze (rmm 2 43) zs zm (List.toArray [.ref (o)]) zb zt zc H locs 0 0 (MQ zb (QW g (mF g o ad (M_refused) (M_now) (M_kept) (M_states) (M_place) (M_startFact) (M_node) (M_fact) (M_ahead) (M_inside) (M_entries) (M_caller) (M_following) (M_firstCaller) (M_lastCaller) (M_callers) (M_known) (M_loose) (M_stack) (M_high) (M_pairs) (M_told) (M_text) (M_typed) (M_orders) (M_written) (M_look)) (mF g o ad (M_refused) (M_now) (M_kept) (M_states) (M_place) (M_startFact) (M_node) (M_fact) (M_ahead) (M_inside) (M_entries) (M_caller) (M_following) (M_firstCaller) (M_lastCaller) (M_callers) (M_known) (M_loose) (M_stack) (M_high) (M_pairs) (M_told) (M_text) (M_typed) (M_orders) (M_written) ((rNum (M_typed) (M_text) (M_look)).2)) zs.heap.size (some (.int (iI ((rNum (M_typed) (M_text) (M_look)).1))))) (List.toArray [.ref (o)]) zs 0 0 A) (F0 zm 17 ls []) := by
      intro k17
      induction k17 with
      | zero =>
        intro q v n hkk hn hq0 hq H locs ls hW hl
        refine r_aload_n C dX5_number_17 hl 0 rfl ?_
        refine r_aload_n C dX5_number_18 hl 0 rfl ?_
        refine r_get (v := .int (iI (q))) C f_X5_224 hW.1 0 rfl rfl dX5_number_19 ?_
        refine r_callR (rest := []) (r := .int (iI (bI (isFig ((M_typed)) ((M_text)) q)))) C hl.1 (c_X5_isFigure l g o ad (M_refused) (M_now) (M_kept) (M_states) (M_place) (M_startFact) (M_node) (M_fact) (M_ahead) (M_inside) (M_entries) (M_caller) (M_following) (M_firstCaller) (M_lastCaller) (M_callers) (M_known) (M_loose) (M_stack) (M_high) (M_pairs) (M_told) (M_text) (M_typed) (M_orders) (M_written) q q (mOk_look hM (by omega)) (show 0 ≤ q ∧ q < 1000 by omega)) v_X5_227 rfl hW.1 0 rfl rfl rfl (by decide) (by decide) (Nat.le_of_ble_eq_true rfl) dX5_number_22 rfl ?_
        refine r_ifb_eq C 66 dX5_number_25 (by decide) (fun hc2 => ?_) (fun hc2 => ?_)
        · skip
          have hD : dgs (M_typed) (M_text) 3 (M_look) 0 0 = (q, v, n) := by rw [hq]; first | rfl | (show (if _ then _ else _) = _; exact if_neg (by assumption))
          refine r_aload_n C dX5_number_66 hl 0 rfl ?_
          refine r_aload_n C dX5_number_67 hl 0 rfl ?_
          refine r_get (v := .int (iI (q))) C f_X5_224 hW.1 0 rfl rfl dX5_number_68 ?_
          refine r_callR (rest := []) (r := .int (iI (bI (isFig ((M_typed)) ((M_text)) q)))) C hl.1 (c_X5_isFigure l g o ad (M_refused) (M_now) (M_kept) (M_states) (M_place) (M_startFact) (M_node) (M_fact) (M_ahead) (M_inside) (M_entries) (M_caller) (M_following) (M_firstCaller) (M_lastCaller) (M_callers) (M_known) (M_loose) (M_stack) (M_high) (M_pairs) (M_told) (M_text) (M_typed) (M_orders) (M_written) q q (mOk_look hM (by omega)) (show 0 ≤ q ∧ q < 1000 by omega)) v_X5_227 rfl hW.1 0 rfl rfl rfl (by decide) (by decide) (Nat.le_of_ble_eq_true rfl) dX5_number_71 rfl ?_
          refine r_ifb_eq C 79 dX5_number_74 (by decide) (fun hc3 => ?_) (fun hc3 => ?_)
          · skip
            refine r_aload_n C dX5_number_79 hl 0 rfl ?_
            refine r_callW (rest := []) (r := none) (wr := []) (ws2 := mF g o ad (M_refused) (M_now) (M_kept) (M_states) (M_place) (M_startFact) (M_node) (M_fact) (M_ahead) (M_inside) (M_entries) (M_caller) (M_following) (M_firstCaller) (M_lastCaller) (M_callers) (M_known) (M_loose) (M_stack) (M_high) (M_pairs) (M_told) (M_text) (M_typed) (M_orders) (M_written) (skT ((M_typed)) ((M_text)) (q))) (st1 := []) C hl.1 hW hA (c_X5_blanks l g o ad (M_refused) (M_now) (M_kept) (M_states) (M_place) (M_startFact) (M_node) (M_fact) (M_ahead) (M_inside) (M_entries) (M_caller) (M_following) (M_firstCaller) (M_lastCaller) (M_callers) (M_known) (M_loose) (M_stack) (M_high) (M_pairs) (M_told) (M_text) (M_typed) (M_orders) (M_written) q  (mOk_look hM (by omega)) (show q ≤ (M_typed) by omega)) v_X5_230 rfl [0, 1, 2, 3, 4, 5, 6, 7, 8, 9, 10, 11, 12, 13, 14, 15, 16, 17, 18] [] [0, 1, 2, 3, 4, 5, 6, 7, 8, 9, 10, 11, 12, 13, 14, 15, 16, 17, 18] rfl rfl (by decide) (by decide) rfl rfl 0 rfl rfl rfl (by decide) (by decide) (Nat.le_of_ble_eq_true rfl) dX5_number_80 rfl rfl (fun H locs hW => ?_)
            refine r_iload_n C dX5_number_83 hl 1 rfl ?_
            have hE : rNum (M_typed) (M_text) (M_look) = (v, skT ((M_typed)) ((M_text)) (q)) := by unfold rNum; rw [if_pos hc1, hD]; exact if_neg hc3
            exact MW_iret C hAe hrt hlk hW dX5_number_84 (iw (by rw [hE])) (by rw [hE])
          · skip
            refine r_iconst (z := -1) C dX5_number_77 rfl ?_
            have hE : rNum (M_typed) (M_text) (M_look) = (-1, q) := by unfold rNum; rw [if_pos hc1, hD]; exact if_pos hc3
            exact MW_iret C hAe hrt hlk hW dX5_number_78 (iw (by rw [hE])) (by rw [hE])
        · skip
          refine r_iload_n C dX5_number_28 hl 2 rfl ?_
          refine r_iconst (z := 3) C dX5_number_29 rfl ?_
          refine r_icmp_ge C 66 dX5_number_30 (by decide) (by omega) (by omega) (fun hc4 => ?_) (fun hc4 => ?_)
          · skip
            have hD : dgs (M_typed) (M_text) 3 (M_look) 0 0 = (q, v, n) := by rw [hq]; first | rfl | (show (if _ then _ else _) = _; exact if_neg (by assumption))
            refine r_aload_n C dX5_number_66 hl 0 rfl ?_
            refine r_aload_n C dX5_number_67 hl 0 rfl ?_
            refine r_get (v := .int (iI (q))) C f_X5_224 hW.1 0 rfl rfl dX5_number_68 ?_
            refine r_callR (rest := []) (r := .int (iI (bI (isFig ((M_typed)) ((M_text)) q)))) C hl.1 (c_X5_isFigure l g o ad (M_refused) (M_now) (M_kept) (M_states) (M_place) (M_startFact) (M_node) (M_fact) (M_ahead) (M_inside) (M_entries) (M_caller) (M_following) (M_firstCaller) (M_lastCaller) (M_callers) (M_known) (M_loose) (M_stack) (M_high) (M_pairs) (M_told) (M_text) (M_typed) (M_orders) (M_written) q q (mOk_look hM (by omega)) (show 0 ≤ q ∧ q < 1000 by omega)) v_X5_227 rfl hW.1 0 rfl rfl rfl (by decide) (by decide) (Nat.le_of_ble_eq_true rfl) dX5_number_71 rfl ?_
            refine r_ifb_eq C 79 dX5_number_74 (by decide) (fun hc5 => ?_) (fun hc5 => ?_)
            · skip
              refine r_aload_n C dX5_number_79 hl 0 rfl ?_
              refine r_callW (rest := []) (r := none) (wr := []) (ws2 := mF g o ad (M_refused) (M_now) (M_kept) (M_states) (M_place) (M_startFact) (M_node) (M_fact) (M_ahead) (M_inside) (M_entries) (M_caller) (M_following) (M_firstCaller) (M_lastCaller) (M_callers) (M_known) (M_loose) (M_stack) (M_high) (M_pairs) (M_told) (M_text) (M_typed) (M_orders) (M_written) (skT ((M_typed)) ((M_text)) (q))) (st1 := []) C hl.1 hW hA (c_X5_blanks l g o ad (M_refused) (M_now) (M_kept) (M_states) (M_place) (M_startFact) (M_node) (M_fact) (M_ahead) (M_inside) (M_entries) (M_caller) (M_following) (M_firstCaller) (M_lastCaller) (M_callers) (M_known) (M_loose) (M_stack) (M_high) (M_pairs) (M_told) (M_text) (M_typed) (M_orders) (M_written) q  (mOk_look hM (by omega)) (show q ≤ (M_typed) by omega)) v_X5_230 rfl [0, 1, 2, 3, 4, 5, 6, 7, 8, 9, 10, 11, 12, 13, 14, 15, 16, 17, 18] [] [0, 1, 2, 3, 4, 5, 6, 7, 8, 9, 10, 11, 12, 13, 14, 15, 16, 17, 18] rfl rfl (by decide) (by decide) rfl rfl 0 rfl rfl rfl (by decide) (by decide) (Nat.le_of_ble_eq_true rfl) dX5_number_80 rfl rfl (fun H locs hW => ?_)
              refine r_iload_n C dX5_number_83 hl 1 rfl ?_
              have hE : rNum (M_typed) (M_text) (M_look) = (v, skT ((M_typed)) ((M_text)) (q)) := by unfold rNum; rw [if_pos hc1, hD]; exact if_neg hc5
              exact MW_iret C hAe hrt hlk hW dX5_number_84 (iw (by rw [hE])) (by rw [hE])
            · skip
              refine r_iconst (z := -1) C dX5_number_77 rfl ?_
              have hE : rNum (M_typed) (M_text) (M_look) = (-1, q) := by unfold rNum; rw [if_pos hc1, hD]; exact if_pos hc5
              exact MW_iret C hAe hrt hlk hW dX5_number_78 (iw (by rw [hE])) (by rw [hE])
          · exact absurd hc4 (by omega)
      | succ k17 ih17 =>
        intro q v n hkk hn hq0 hq H locs ls hW hl
        refine r_aload_n C dX5_number_17 hl 0 rfl ?_
        refine r_aload_n C dX5_number_18 hl 0 rfl ?_
        refine r_get (v := .int (iI (q))) C f_X5_224 hW.1 0 rfl rfl dX5_number_19 ?_
        refine r_callR (rest := []) (r := .int (iI (bI (isFig ((M_typed)) ((M_text)) q)))) C hl.1 (c_X5_isFigure l g o ad (M_refused) (M_now) (M_kept) (M_states) (M_place) (M_startFact) (M_node) (M_fact) (M_ahead) (M_inside) (M_entries) (M_caller) (M_following) (M_firstCaller) (M_lastCaller) (M_callers) (M_known) (M_loose) (M_stack) (M_high) (M_pairs) (M_told) (M_text) (M_typed) (M_orders) (M_written) q q (mOk_look hM (by omega)) (show 0 ≤ q ∧ q < 1000 by omega)) v_X5_227 rfl hW.1 0 rfl rfl rfl (by decide) (by decide) (Nat.le_of_ble_eq_true rfl) dX5_number_22 rfl ?_
        refine r_ifb_eq C 66 dX5_number_25 (by decide) (fun hc6 => ?_) (fun hc6 => ?_)
        · skip
          have hD : dgs (M_typed) (M_text) 3 (M_look) 0 0 = (q, v, n) := by rw [hq]; first | rfl | (show (if _ then _ else _) = _; exact if_neg (by assumption))
          refine r_aload_n C dX5_number_66 hl 0 rfl ?_
          refine r_aload_n C dX5_number_67 hl 0 rfl ?_
          refine r_get (v := .int (iI (q))) C f_X5_224 hW.1 0 rfl rfl dX5_number_68 ?_
          refine r_callR (rest := []) (r := .int (iI (bI (isFig ((M_typed)) ((M_text)) q)))) C hl.1 (c_X5_isFigure l g o ad (M_refused) (M_now) (M_kept) (M_states) (M_place) (M_startFact) (M_node) (M_fact) (M_ahead) (M_inside) (M_entries) (M_caller) (M_following) (M_firstCaller) (M_lastCaller) (M_callers) (M_known) (M_loose) (M_stack) (M_high) (M_pairs) (M_told) (M_text) (M_typed) (M_orders) (M_written) q q (mOk_look hM (by omega)) (show 0 ≤ q ∧ q < 1000 by omega)) v_X5_227 rfl hW.1 0 rfl rfl rfl (by decide) (by decide) (Nat.le_of_ble_eq_true rfl) dX5_number_71 rfl ?_
          refine r_ifb_eq C 79 dX5_number_74 (by decide) (fun hc7 => ?_) (fun hc7 => ?_)
          · skip
            refine r_aload_n C dX5_number_79 hl 0 rfl ?_
            refine r_callW (rest := []) (r := none) (wr := []) (ws2 := mF g o ad (M_refused) (M_now) (M_kept) (M_states) (M_place) (M_startFact) (M_node) (M_fact) (M_ahead) (M_inside) (M_entries) (M_caller) (M_following) (M_firstCaller) (M_lastCaller) (M_callers) (M_known) (M_loose) (M_stack) (M_high) (M_pairs) (M_told) (M_text) (M_typed) (M_orders) (M_written) (skT ((M_typed)) ((M_text)) (q))) (st1 := []) C hl.1 hW hA (c_X5_blanks l g o ad (M_refused) (M_now) (M_kept) (M_states) (M_place) (M_startFact) (M_node) (M_fact) (M_ahead) (M_inside) (M_entries) (M_caller) (M_following) (M_firstCaller) (M_lastCaller) (M_callers) (M_known) (M_loose) (M_stack) (M_high) (M_pairs) (M_told) (M_text) (M_typed) (M_orders) (M_written) q  (mOk_look hM (by omega)) (show q ≤ (M_typed) by omega)) v_X5_230 rfl [0, 1, 2, 3, 4, 5, 6, 7, 8, 9, 10, 11, 12, 13, 14, 15, 16, 17, 18] [] [0, 1, 2, 3, 4, 5, 6, 7, 8, 9, 10, 11, 12, 13, 14, 15, 16, 17, 18] rfl rfl (by decide) (by decide) rfl rfl 0 rfl rfl rfl (by decide) (by decide) (Nat.le_of_ble_eq_true rfl) dX5_number_80 rfl rfl (fun H locs hW => ?_)
            refine r_iload_n C dX5_number_83 hl 1 rfl ?_
            have hE : rNum (M_typed) (M_text) (M_look) = (v, skT ((M_typed)) ((M_text)) (q)) := by unfold rNum; rw [if_pos hc1, hD]; exact if_neg hc7
            exact MW_iret C hAe hrt hlk hW dX5_number_84 (iw (by rw [hE])) (by rw [hE])
          · skip
            refine r_iconst (z := -1) C dX5_number_77 rfl ?_
            have hE : rNum (M_typed) (M_text) (M_look) = (-1, q) := by unfold rNum; rw [if_pos hc1, hD]; exact if_pos hc7
            exact MW_iret C hAe hrt hlk hW dX5_number_78 (iw (by rw [hE])) (by rw [hE])
        · skip
          refine r_iload_n C dX5_number_28 hl 2 rfl ?_
          refine r_iconst (z := 3) C dX5_number_29 rfl ?_
          refine r_icmp_ge C 66 dX5_number_30 (by decide) (by omega) (by omega) (fun hc8 => ?_) (fun hc8 => ?_)
          · exact absurd hc8 (by omega)
          · skip
            refine r_bipush (z := 10) C dX5_number_33 rfl ?_
            refine r_iload_n C dX5_number_35 hl 1 rfl ?_
            refine r_imul C dX5_number_36 ?_
            refine r_aload_n C dX5_number_37 hl 0 rfl ?_
            refine r_aload_n C dX5_number_38 hl 0 rfl ?_
            refine r_get (v := .int (iI (q))) C f_X5_224 hW.1 0 rfl rfl dX5_number_39 ?_
            refine r_callR (rest := [.int (iI (10 * v))]) (r := .int (iI (if q < (M_typed) then (M_text) q else -1))) C hl.1 (c_X5_byteAt l g o ad (M_refused) (M_now) (M_kept) (M_states) (M_place) (M_startFact) (M_node) (M_fact) (M_ahead) (M_inside) (M_entries) (M_caller) (M_following) (M_firstCaller) (M_lastCaller) (M_callers) (M_known) (M_loose) (M_stack) (M_high) (M_pairs) (M_told) (M_text) (M_typed) (M_orders) (M_written) q q (mOk_look hM (by omega)) (show 0 ≤ q ∧ q < 1000 by omega)) v_X5_221 rfl hW.1 0 rfl rfl rfl (by decide) (by decide) (Nat.le_of_ble_eq_true rfl) dX5_number_42 rfl ?_
            have hq9 := bAt_q ((M_typed)) ((M_text)) q (by assumption) (by omega) (by omega)
            refine r_iadd C dX5_number_45 ?_
            refine r_bipush (z := 48) C dX5_number_46 rfl ?_
            refine r_isub C dX5_number_48 ?_
            refine r_istore_n C [(1, .int (iI (((10 * v) + (if q < (M_typed) then (M_text) q else -1)) - 48))), (0, .ref (o)), (2, .int (iI (n)))] dX5_number_49 hl (by decide) rfl (fun ls hl => ?_)
            refine r_aload_n C dX5_number_50 hl 1 rfl ?_
            refine r_dup C rfl dX5_number_51 ?_
            refine r_get (v := .int (iI (q))) C f_X5_224 hW.1 0 rfl rfl dX5_number_52 ?_
            refine r_iconst (z := 1) C dX5_number_55 rfl ?_
            refine r_iadd C dX5_number_56 ?_
            refine r_put C f_X5_224 fp_5_26 hW (mF g o ad (M_refused) (M_now) (M_kept) (M_states) (M_place) (M_startFact) (M_node) (M_fact) (M_ahead) (M_inside) (M_entries) (M_caller) (M_following) (M_firstCaller) (M_lastCaller) (M_callers) (M_known) (M_loose) (M_stack) (M_high) (M_pairs) (M_told) (M_text) (M_typed) (M_orders) (M_written) (q + 1)) 0 rfl rfl rfl (Nat.le_of_ble_eq_true rfl) rfl dX5_number_57 (fun H locs hW => ?_)
            refine r_iinc (v := n + 1) C [(2, .int (iI (n + 1))), (1, .int (iI (((10 * v) + (if q < (M_typed) then (M_text) q else -1)) - 48))), (0, .ref (o))] dX5_number_60 hl 2 rfl (by decide) (by omega) rfl (fun ls hl => ?_)
            refine r_goto C 17 dX5_number_63 (by decide) ?_
            exact ih17 (q + 1) _ (n + 1) (by omega) (by omega) (by omega) (by rw [hq]; show (if _ then _ else _) = _; rw [if_pos hc6, if_pos hc6.1]) _ _ ls hW (lv_sub hl [2, 1, 0] rfl)
    exact hloop17 3 (M_look) 0 0 (by omega) (by omega) (by omega) rfl _ _ ls hW (lv_sub hl [2, 1, 0] rfl)
  · skip
    refine r_iconst (z := -1) C dX5_number_11 rfl ?_
    have hE : rNum (M_typed) (M_text) (M_look) = (-1, M_look) := if_neg hc1
    exact MW_iret C hAe hrt hlk hW dX5_number_12 (iw (by rw [hE])) (by rw [hE])
set_option maxHeartbeats 4000000 in
set_option maxRecDepth 100000 in
theorem c_X5_reads (l : Launch) (g : GG) (o : Nat) (ad : Nat → Nat) (M_refused : (Int → Int)) (M_now : (Int → Int)) (M_kept : (Int → Int)) (M_states : Int) (M_place : (Int → Int)) (M_startFact : (Int → Int)) (M_node : (Int → Int)) (M_fact : (Int → Int)) (M_ahead : (Int → Int)) (M_inside : (Int → Int)) (M_entries : Int) (M_caller : (Int → Int)) (M_following : (Int → Int)) (M_firstCaller : (Int → Int)) (M_lastCaller : (Int → Int)) (M_callers : Int) (M_known : Int) (M_loose : (Int → Int)) (M_stack : (Int → Int)) (M_high : Int) (M_pairs : (Int → Int)) (M_told : Int) (M_text : (Int → Int)) (M_typed : Int) (M_orders : (Int → Int)) (M_written : Int) (M_look : Int) (hM : mOk (M_refused, M_now, M_kept, M_states, M_place, M_startFact, M_node, M_fact, M_ahead, M_inside, M_entries, M_caller, M_following, M_firstCaller, M_lastCaller, M_callers, M_known, M_loose, M_stack, M_high, M_pairs, M_told, M_text, M_typed, M_orders, M_written, M_look)) (hlo : M_look ≤ M_typed) (hwr : 0 ≤ M_written ∧ 2 * M_written ≤ M_look) : MW l g yX5_reads cX5_reads 5 (some .boolean) 3 65 [.ref (o)] (mF g o ad (M_refused) (M_now) (M_kept) (M_states) (M_place) (M_startFact) (M_node) (M_fact) (M_ahead) (M_inside) (M_entries) (M_caller) (M_following) (M_firstCaller) (M_lastCaller) (M_callers) (M_known) (M_loose) (M_stack) (M_high) (M_pairs) (M_told) (M_text) (M_typed) (M_orders) (M_written) (M_look)) (mF g o ad (M_refused) (M_now) (M_kept) (M_states) (M_place) (M_startFact) (M_node) (M_fact) (M_ahead) (M_inside) (M_entries) (M_caller) (M_following) (M_firstCaller) (M_lastCaller) (M_callers) (M_known) (M_loose) (M_stack) (M_high) (M_pairs) (M_told) (M_text) (M_typed) ((rReads (M_typed) (M_text) (M_look) (M_orders) (M_written)).2.2.1) ((rReads (M_typed) (M_text) (M_look) (M_orders) (M_written)).2.2.2) ((rReads (M_typed) (M_text) (M_look) (M_orders) (M_written)).2.1)) (some (.int (iI (bI ((rReads (M_typed) (M_text) (M_look) (M_orders) (M_written)).1 = true))))) := by
  refine MW_start (by decide) (Nat.le_of_ble_eq_true rfl) ?_
  intro zp ze zs zm zb zt zc A hAe C hrt hlk hW ls hl
  have hA : ∀ q, zs.heap.size ≤ q → A q := fun q h => by rw [hAe]; exact Or.inr h
  have hl : lv_has ls 5 [(0, .ref (o))] := hl
  have hM_refused : ∀ j : Int, 0 ≤ j → j < 3 → 0 ≤ M_refused j ∧ M_refused j ≤ 1000000 := hM.1
  have hM_states : 0 ≤ M_states ∧ M_states ≤ 5 := hM.2.1
  have hM_place : ∀ j : Int, 0 ≤ j → j < 1536 → 0 ≤ M_place j ∧ M_place j ≤ 1536 := hM.2.2.1
  have hM_startFact : ∀ j : Int, 0 ≤ j → j < 1536 → 0 ≤ M_startFact j ∧ M_startFact j ≤ 7 := hM.2.2.2.1
  have hM_node : ∀ j : Int, 0 ≤ j → j < 1536 → 0 ≤ M_node j ∧ M_node j ≤ 23 := hM.2.2.2.2.1
  have hM_fact : ∀ j : Int, 0 ≤ j → j < 1536 → 0 ≤ M_fact j ∧ M_fact j ≤ 7 := hM.2.2.2.2.2.1
  have hM_ahead : ∀ j : Int, 0 ≤ j → j < 1536 → -1 ≤ M_ahead j ∧ M_ahead j ≤ 1535 := hM.2.2.2.2.2.2.1
  have hM_inside : ∀ j : Int, 0 ≤ j → j < 1536 → -1 ≤ M_inside j ∧ M_inside j ≤ 1535 := hM.2.2.2.2.2.2.2.1
  have hM_entries : 0 ≤ M_entries ∧ M_entries ≤ 1536 := hM.2.2.2.2.2.2.2.2.1
  have hM_caller : ∀ j : Int, 0 ≤ j → j < 16384 → 0 ≤ M_caller j ∧ M_caller j ≤ 49151 := hM.2.2.2.2.2.2.2.2.2.1
  have hM_following : ∀ j : Int, 0 ≤ j → j < 16384 → -1 ≤ M_following j ∧ M_following j ≤ 16383 := hM.2.2.2.2.2.2.2.2.2.2.1
  have hM_firstCaller : ∀ j : Int, 0 ≤ j → j < 40 → -1 ≤ M_firstCaller j ∧ M_firstCaller j ≤ 16383 := hM.2.2.2.2.2.2.2.2.2.2.2.1
  have hM_lastCaller : ∀ j : Int, 0 ≤ j → j < 40 → -1 ≤ M_lastCaller j ∧ M_lastCaller j ≤ 16383 := hM.2.2.2.2.2.2.2.2.2.2.2.2.1
  have hM_callers : 0 ≤ M_callers ∧ M_callers ≤ 16384 := hM.2.2.2.2.2.2.2.2.2.2.2.2.2.1
  have hM_known : 0 ≤ M_known ∧ M_known ≤ 1 := hM.2.2.2.2.2.2.2.2.2.2.2.2.2.2.1
  have hM_loose : ∀ j : Int, 0 ≤ j → j < 24 → 0 ≤ M_loose j ∧ M_loose j ≤ 255 := hM.2.2.2.2.2.2.2.2.2.2.2.2.2.2.2.1
  have hM_stack : ∀ j : Int, 0 ≤ j → j < 8000 → 0 ≤ M_stack j ∧ M_stack j ≤ 6143 := hM.2.2.2.2.2.2.2.2.2.2.2.2.2.2.2.2.1
  have hM_high : 0 ≤ M_high ∧ M_high ≤ 8000 := hM.2.2.2.2.2.2.2.2.2.2.2.2.2.2.2.2.2.1
  have hM_pairs : ∀ j : Int, 0 ≤ j → j < 1000 → 0 ≤ M_pairs j ∧ M_pairs j ≤ 239 := hM.2.2.2.2.2.2.2.2.2.2.2.2.2.2.2.2.2.2.1
  have hM_told : 0 ≤ M_told ∧ M_told ≤ 1000 := hM.2.2.2.2.2.2.2.2.2.2.2.2.2.2.2.2.2.2.2.1
  have hM_text : ∀ j : Int, 0 ≤ j → j < 120 → 0 ≤ M_text j ∧ M_text j ≤ 127 := hM.2.2.2.2.2.2.2.2.2.2.2.2.2.2.2.2.2.2.2.2.1
  have hM_typed : 0 ≤ M_typed ∧ M_typed ≤ 120 := hM.2.2.2.2.2.2.2.2.2.2.2.2.2.2.2.2.2.2.2.2.2.1
  have hM_orders : ∀ j : Int, 0 ≤ j → j < 300 → 0 ≤ M_orders j ∧ M_orders j ≤ 999 := hM.2.2.2.2.2.2.2.2.2.2.2.2.2.2.2.2.2.2.2.2.2.2.1
  have hM_written : 0 ≤ M_written ∧ M_written ≤ 60 := hM.2.2.2.2.2.2.2.2.2.2.2.2.2.2.2.2.2.2.2.2.2.2.2.1
  have hM_look : 0 ≤ M_look ∧ M_look ≤ 120 := hM.2.2.2.2.2.2.2.2.2.2.2.2.2.2.2.2.2.2.2.2.2.2.2.2
  refine r_aload_n C dX5_reads_0 hl 0 rfl ?_
  refine r_aload_n C dX5_reads_1 hl 0 rfl ?_
  refine r_get (v := .int (iI (M_look))) C f_X5_224 hW.1 0 rfl rfl dX5_reads_2 ?_
  refine r_callR (rest := []) (r := .int (iI (if (M_look) < (M_typed) then (M_text) (M_look) else -1))) C hl.1 (c_X5_byteAt l g o ad (M_refused) (M_now) (M_kept) (M_states) (M_place) (M_startFact) (M_node) (M_fact) (M_ahead) (M_inside) (M_entries) (M_caller) (M_following) (M_firstCaller) (M_lastCaller) (M_callers) (M_known) (M_loose) (M_stack) (M_high) (M_pairs) (M_told) (M_text) (M_typed) (M_orders) (M_written) (M_look) (M_look) (by assumption) (show 0 ≤ (M_look) ∧ (M_look) < 1000 by omega)) v_X5_221 rfl hW.1 0 rfl rfl rfl (by decide) (by decide) (Nat.le_of_ble_eq_true rfl) dX5_reads_5 rfl ?_
  have hq1 := bAt_q ((M_typed)) ((M_text)) (M_look) (by assumption) (by omega) (by omega)
  refine r_istore_n C [(1, .int (iI (if (M_look) < (M_typed) then (M_text) (M_look) else -1))), (0, .ref (o))] dX5_reads_8 hl (by decide) rfl (fun ls hl => ?_)
  refine r_iload_n C dX5_reads_9 hl 0 rfl ?_
  refine r_callRS (rest := []) (r := .int (iI (xBehind (if (M_look) < (M_typed) then (M_text) (M_look) else -1)))) C hl.1 (c_X5_wants l g  (if (M_look) < (M_typed) then (M_text) (M_look) else -1) (show rg (if (M_look) < (M_typed) then (M_text) (M_look) else -1) by omega)) v_X5_233 rfl (fun k q h => by simp at h) (by decide) (by decide) (Nat.le_of_ble_eq_true rfl) dX5_reads_10 rfl ?_
  have hq2 := xBehind_r (if (M_look) < (M_typed) then (M_text) (M_look) else -1)
  refine r_istore_n C [(2, .int (iI (xBehind (if (M_look) < (M_typed) then (M_text) (M_look) else -1)))), (1, .int (iI (if (M_look) < (M_typed) then (M_text) (M_look) else -1))), (0, .ref (o))] dX5_reads_13 hl (by decide) rfl (fun ls hl => ?_)
  refine r_iload_n C dX5_reads_14 hl 0 rfl ?_
  refine r_iconst (z := -1) C dX5_reads_15 rfl ?_
  refine r_icmp_ne C 21 dX5_reads_16 (by decide) (by omega) (by omega) (fun hc3 => ?_) (fun hc3 => ?_)
  · skip
    have hnb : ¬ (xBehind (if M_look < M_typed then M_text (M_look) else -1) = -1) := by omega
    have hlt : M_look < M_typed := xBehind_lt hnb
    have hsk := skT_q (M_typed) (M_text) (M_look + 1) (by omega)
    refine r_aload_n C dX5_reads_21 hl 2 rfl ?_
    refine r_dup C rfl dX5_reads_22 ?_
    refine r_get (v := .int (iI (M_look))) C f_X5_224 hW.1 0 rfl rfl dX5_reads_23 ?_
    refine r_iconst (z := 1) C dX5_reads_26 rfl ?_
    refine r_iadd C dX5_reads_27 ?_
    refine r_put C f_X5_224 fp_5_26 hW (mF g o ad (M_refused) (M_now) (M_kept) (M_states) (M_place) (M_startFact) (M_node) (M_fact) (M_ahead) (M_inside) (M_entries) (M_caller) (M_following) (M_firstCaller) (M_lastCaller) (M_callers) (M_known) (M_loose) (M_stack) (M_high) (M_pairs) (M_told) (M_text) (M_typed) (M_orders) (M_written) ((M_look) + 1)) 0 rfl rfl rfl (Nat.le_of_ble_eq_true rfl) rfl dX5_reads_28 (fun H locs hW => ?_)
    refine r_aload_n C dX5_reads_31 hl 2 rfl ?_
    refine r_callW (rest := []) (r := none) (wr := []) (ws2 := mF g o ad (M_refused) (M_now) (M_kept) (M_states) (M_place) (M_startFact) (M_node) (M_fact) (M_ahead) (M_inside) (M_entries) (M_caller) (M_following) (M_firstCaller) (M_lastCaller) (M_callers) (M_known) (M_loose) (M_stack) (M_high) (M_pairs) (M_told) (M_text) (M_typed) (M_orders) (M_written) (skT ((M_typed)) ((M_text)) (((M_look) + 1)))) (st1 := []) C hl.1 hW hA (c_X5_blanks l g o ad (M_refused) (M_now) (M_kept) (M_states) (M_place) (M_startFact) (M_node) (M_fact) (M_ahead) (M_inside) (M_entries) (M_caller) (M_following) (M_firstCaller) (M_lastCaller) (M_callers) (M_known) (M_loose) (M_stack) (M_high) (M_pairs) (M_told) (M_text) (M_typed) (M_orders) (M_written) ((M_look) + 1)  (mOk_look hM (by omega)) (show ((M_look) + 1) ≤ (M_typed) by omega)) v_X5_230 rfl [0, 1, 2, 3, 4, 5, 6, 7, 8, 9, 10, 11, 12, 13, 14, 15, 16, 17, 18] [] [0, 1, 2, 3, 4, 5, 6, 7, 8, 9, 10, 11, 12, 13, 14, 15, 16, 17, 18] rfl rfl (by decide) (by decide) rfl rfl 0 rfl rfl rfl (by decide) (by decide) (Nat.le_of_ble_eq_true rfl) dX5_reads_32 rfl rfl (fun H locs hW => ?_)
    refine r_aload_n C dX5_reads_35 hl 2 rfl ?_
    refine r_get (v := .ref (ad 17)) C f_X5_61 hW.1 0 rfl rfl dX5_reads_36 ?_
    refine r_iconst (z := 5) C dX5_reads_39 rfl ?_
    refine r_aload_n C dX5_reads_40 hl 2 rfl ?_
    refine r_get (v := .int (iI (M_written))) C f_X5_236 hW.1 0 rfl rfl dX5_reads_41 ?_
    refine r_imul C dX5_reads_44 ?_
    refine r_iload_n C dX5_reads_45 hl 1 rfl ?_
    refine r_iast (f := M_orders) C hW (mF g o ad (M_refused) (M_now) (M_kept) (M_states) (M_place) (M_startFact) (M_node) (M_fact) (M_ahead) (M_inside) (M_entries) (M_caller) (M_following) (M_firstCaller) (M_lastCaller) (M_callers) (M_known) (M_loose) (M_stack) (M_high) (M_pairs) (M_told) (M_text) (M_typed) (up (M_orders) (5 * (M_written)) (if (M_look) < (M_typed) then (M_text) (M_look) else -1)) (M_written) (skT ((M_typed)) ((M_text)) (((M_look) + 1)))) 18 rfl (Nat.le_of_ble_eq_true rfl) (by omega) rfl dX5_reads_46 (fun H locs hW => ?_)
    refine r_iconst (z := 0) C dX5_reads_47 rfl ?_
    refine r_istore_n C [(3, .int (iI (0))), (2, .int (iI (xBehind (if (M_look) < (M_typed) then (M_text) (M_look) else -1)))), (1, .int (iI (if (M_look) < (M_typed) then (M_text) (M_look) else -1))), (0, .ref (o))] dX5_reads_48 hl (by decide) rfl (fun ls hl => ?_)
    have hloop49 : ∀ (k49 : Nat) (i p : Int) (O : Int → Int) (hkk : i + k49 = xBehind (if M_look < M_typed then M_text (M_look) else -1)) (hi : 0 ≤ i) (hp : M_look + 1 ≤ p ∧ p ≤ M_typed) (hO : oOk O) (hq : rN (M_typed) (M_text) (M_look) (M_orders) (M_written) = rNums (M_typed) (M_text) (M_written) k49 i p O) (H : Heap) (locs : List Loc) (ls : Array Slot), HW g A zs.heap (mF g o ad (M_refused) (M_now) (M_kept) (M_states) (M_place) (M_startFact) (M_node) (M_fact) (M_ahead) (M_inside) (M_entries) (M_caller) (M_following) (M_firstCaller) (M_lastCaller) (M_callers) (M_known) (M_loose) (M_stack) (M_high) (M_pairs) (M_told) (M_text) (M_typed) O (M_written) p) H locs → lv_has ls 5 [(0, .ref (o)), (2, .int (iI (xBehind (if (M_look) < (M_typed) then (M_text) (M_look) else -1)))), (3, .int (iI (i)))] → W zp l ze (rmm 3 65) zs zm (List.toArray [.ref (o)]) zb zt zc H locs 0 0 (MQ zb (QW g (mF g o ad (M_refused) (M_now) (M_kept) (M_states) (M_place) (M_startFact) (M_node) (M_fact) (M_ahead) (M_inside) (M_entries) (M_caller) (M_following) (M_firstCaller) (M_lastCaller) (M_callers) (M_known) (M_loose) (M_stack) (M_high) (M_pairs) (M_told) (M_text) (M_typed) (M_orders) (M_written) (M_look)) (mF g o ad (M_refused) (M_now) (M_kept) (M_states) (M_place) (M_startFact) (M_node) (M_fact) (M_ahead) (M_inside) (M_entries) (M_caller) (M_following) (M_firstCaller) (M_lastCaller) (M_callers) (M_known) (M_loose) (M_stack) (M_high) (M_pairs) (M_told) (M_text) (M_typed) ((rReads (M_typed) (M_text) (M_look) (M_orders) (M_written)).2.2.1) ((rReads (M_typed) (M_text) (M_look) (M_orders) (M_written)).2.2.2) ((rReads (M_typed) (M_text) (M_look) (M_orders) (M_written)).2.1)) zs.heap.size (some (.int (iI (bI ((rReads (M_typed) (M_text) (M_look) (M_orders) (M_written)).1 = true)))))) (List.toArray [.ref (o)]) zs 0 0 A) (F0 zm 49 ls []) := by
      intro k49
      induction k49 with
      | zero =>
        intro i p O hkk hi hp hO hq H locs ls hW hl
        refine r_iload_n C dX5_reads_49 hl 2 rfl ?_
        refine r_iload_n C dX5_reads_50 hl 1 rfl ?_
        refine r_icmp_ge C 91 dX5_reads_51 (by decide) (by omega) (by omega) (fun hc4 => ?_) (fun hc4 => ?_)
        · skip
          refine r_aload_n C dX5_reads_91 hl 0 rfl ?_
          refine r_aload_n C dX5_reads_92 hl 0 rfl ?_
          refine r_get (v := .int (iI (p))) C f_X5_224 hW.1 0 rfl rfl dX5_reads_93 ?_
          refine r_callR (rest := []) (r := .int (iI (if p < (M_typed) then (M_text) p else -1))) C hl.1 (c_X5_byteAt l g o ad (M_refused) (M_now) (M_kept) (M_states) (M_place) (M_startFact) (M_node) (M_fact) (M_ahead) (M_inside) (M_entries) (M_caller) (M_following) (M_firstCaller) (M_lastCaller) (M_callers) (M_known) (M_loose) (M_stack) (M_high) (M_pairs) (M_told) (M_text) (M_typed) O (M_written) p p (mOk_lo hM (by omega) hO) (show 0 ≤ p ∧ p < 1000 by omega)) v_X5_221 rfl hW.1 0 rfl rfl rfl (by decide) (by decide) (Nat.le_of_ble_eq_true rfl) dX5_reads_96 rfl ?_
          have hq5 := bAt_q ((M_typed)) ((M_text)) p (by assumption) (by omega) (by omega)
          refine r_bipush (z := 59) C dX5_reads_99 rfl ?_
          refine r_icmp_eq C 106 dX5_reads_101 (by decide) (by omega) (by omega) (fun hc6 => ?_) (fun hc6 => ?_)
          · skip
            refine r_aload_n C dX5_reads_106 hl 0 rfl ?_
            refine r_dup C rfl dX5_reads_107 ?_
            refine r_get (v := .int (iI (p))) C f_X5_224 hW.1 0 rfl rfl dX5_reads_108 ?_
            refine r_iconst (z := 1) C dX5_reads_111 rfl ?_
            refine r_iadd C dX5_reads_112 ?_
            refine r_put C f_X5_224 fp_5_26 hW (mF g o ad (M_refused) (M_now) (M_kept) (M_states) (M_place) (M_startFact) (M_node) (M_fact) (M_ahead) (M_inside) (M_entries) (M_caller) (M_following) (M_firstCaller) (M_lastCaller) (M_callers) (M_known) (M_loose) (M_stack) (M_high) (M_pairs) (M_told) (M_text) (M_typed) O (M_written) (p + 1)) 0 rfl rfl rfl (Nat.le_of_ble_eq_true rfl) rfl dX5_reads_113 (fun H locs hW => ?_)
            refine r_aload_n C dX5_reads_116 hl 0 rfl ?_
            refine r_callW (rest := []) (r := none) (wr := []) (ws2 := mF g o ad (M_refused) (M_now) (M_kept) (M_states) (M_place) (M_startFact) (M_node) (M_fact) (M_ahead) (M_inside) (M_entries) (M_caller) (M_following) (M_firstCaller) (M_lastCaller) (M_callers) (M_known) (M_loose) (M_stack) (M_high) (M_pairs) (M_told) (M_text) (M_typed) O (M_written) (skT ((M_typed)) ((M_text)) ((p + 1)))) (st1 := []) C hl.1 hW hA (c_X5_blanks l g o ad (M_refused) (M_now) (M_kept) (M_states) (M_place) (M_startFact) (M_node) (M_fact) (M_ahead) (M_inside) (M_entries) (M_caller) (M_following) (M_firstCaller) (M_lastCaller) (M_callers) (M_known) (M_loose) (M_stack) (M_high) (M_pairs) (M_told) (M_text) (M_typed) O (M_written) (p + 1)  (mOk_lo hM (by omega) hO) (show (p + 1) ≤ (M_typed) by omega)) v_X5_230 rfl [0, 1, 2, 3, 4, 5, 6, 7, 8, 9, 10, 11, 12, 13, 14, 15, 16, 17, 18] [] [0, 1, 2, 3, 4, 5, 6, 7, 8, 9, 10, 11, 12, 13, 14, 15, 16, 17, 18] rfl rfl (by decide) (by decide) rfl rfl 0 rfl rfl rfl (by decide) (by decide) (Nat.le_of_ble_eq_true rfl) dX5_reads_117 rfl rfl (fun H locs hW => ?_)
            refine r_aload_n C dX5_reads_120 hl 0 rfl ?_
            refine r_dup C rfl dX5_reads_121 ?_
            refine r_get (v := .int (iI (M_written))) C f_X5_236 hW.1 0 rfl rfl dX5_reads_122 ?_
            refine r_iconst (z := 1) C dX5_reads_125 rfl ?_
            refine r_iadd C dX5_reads_126 ?_
            refine r_put C f_X5_236 fp_5_25 hW (mF g o ad (M_refused) (M_now) (M_kept) (M_states) (M_place) (M_startFact) (M_node) (M_fact) (M_ahead) (M_inside) (M_entries) (M_caller) (M_following) (M_firstCaller) (M_lastCaller) (M_callers) (M_known) (M_loose) (M_stack) (M_high) (M_pairs) (M_told) (M_text) (M_typed) O ((M_written) + 1) (skT ((M_typed)) ((M_text)) ((p + 1)))) 0 rfl rfl rfl (Nat.le_of_ble_eq_true rfl) rfl dX5_reads_127 (fun H locs hW => ?_)
            refine r_iconst (z := 1) C dX5_reads_130 rfl ?_
            have hE : rReads (M_typed) (M_text) (M_look) (M_orders) (M_written) = (true, skT ((M_typed)) ((M_text)) ((p + 1)), O, (M_written) + 1) := by
              have hN : rN (M_typed) (M_text) (M_look) (M_orders) (M_written) = (true, p, O) := hq
              unfold rReads; rw [if_neg (show ¬ xBehind (bAt (M_typed) (M_text) (M_look)) = -1 from hnb), hN]; exact (if_pos rfl).trans (if_pos hc6)
            exact MW_zret (d := (rReads (M_typed) (M_text) (M_look) (M_orders) (M_written)).1 = true) C hAe hrt hlk hW dX5_reads_131 (by rw [hE]; exact (bI_t rfl).symm) rfl (by rw [hE])
          · skip
            refine r_iconst (z := 0) C dX5_reads_104 rfl ?_
            have hE : rReads (M_typed) (M_text) (M_look) (M_orders) (M_written) = (false, p, O, M_written) := by
              have hN : rN (M_typed) (M_text) (M_look) (M_orders) (M_written) = (true, p, O) := hq
              unfold rReads; rw [if_neg (show ¬ xBehind (bAt (M_typed) (M_text) (M_look)) = -1 from hnb), hN]; exact (if_pos rfl).trans (if_neg hc6)
            exact MW_zret (d := (rReads (M_typed) (M_text) (M_look) (M_orders) (M_written)).1 = true) C hAe hrt hlk hW dX5_reads_105 (by rw [hE]; exact (bI_f Bool.false_ne_true).symm) rfl (by rw [hE])
        · exact absurd hc4 (by omega)
      | succ k49 ih49 =>
        intro i p O hkk hi hp hO hq H locs ls hW hl
        refine r_iload_n C dX5_reads_49 hl 2 rfl ?_
        refine r_iload_n C dX5_reads_50 hl 1 rfl ?_
        refine r_icmp_ge C 91 dX5_reads_51 (by decide) (by omega) (by omega) (fun hc7 => ?_) (fun hc7 => ?_)
        · exact absurd hc7 (by omega)
        · skip
          refine r_aload_n C dX5_reads_54 hl 0 rfl ?_
          refine r_callW (rest := []) (r := some (.int (iI ((rNum ((M_typed)) ((M_text)) (p)).1)))) (wr := []) (ws2 := mF g o ad (M_refused) (M_now) (M_kept) (M_states) (M_place) (M_startFact) (M_node) (M_fact) (M_ahead) (M_inside) (M_entries) (M_caller) (M_following) (M_firstCaller) (M_lastCaller) (M_callers) (M_known) (M_loose) (M_stack) (M_high) (M_pairs) (M_told) (M_text) (M_typed) O (M_written) ((rNum ((M_typed)) ((M_text)) (p)).2)) (st1 := [.int (iI ((rNum ((M_typed)) ((M_text)) (p)).1))]) C hl.1 hW hA (c_X5_number l g o ad (M_refused) (M_now) (M_kept) (M_states) (M_place) (M_startFact) (M_node) (M_fact) (M_ahead) (M_inside) (M_entries) (M_caller) (M_following) (M_firstCaller) (M_lastCaller) (M_callers) (M_known) (M_loose) (M_stack) (M_high) (M_pairs) (M_told) (M_text) (M_typed) O (M_written) p  (mOk_lo hM (by omega) hO) (show p ≤ (M_typed) by omega)) v_X5_239 rfl [0, 1, 2, 3, 4, 5, 6, 7, 8, 9, 10, 11, 12, 13, 14, 15, 16, 17, 18] [] [0, 1, 2, 3, 4, 5, 6, 7, 8, 9, 10, 11, 12, 13, 14, 15, 16, 17, 18] rfl rfl (by decide) (by decide) rfl rfl 0 rfl rfl rfl (by decide) (by decide) (Nat.le_of_ble_eq_true rfl) dX5_reads_55 rfl rfl (fun H locs hW => ?_)
          have hnq := rNum_q (M_typed) (M_text) p (by omega)
          refine r_istore C [(4, .int (iI ((rNum ((M_typed)) ((M_text)) (p)).1))), (0, .ref (o)), (2, .int (iI (xBehind (if (M_look) < (M_typed) then (M_text) (M_look) else -1)))), (3, .int (iI (i)))] dX5_reads_58 hl (by decide) rfl (fun ls hl => ?_)
          refine r_iload C dX5_reads_60 hl 0 rfl ?_
          refine r_iconst (z := -1) C dX5_reads_62 rfl ?_
          refine r_icmp_ne C 68 dX5_reads_63 (by decide) (by omega) (by omega) (fun hc8 => ?_) (fun hc8 => ?_)
          · skip
            refine r_aload_n C dX5_reads_68 hl 1 rfl ?_
            refine r_get (v := .ref (ad 17)) C f_X5_61 hW.1 0 rfl rfl dX5_reads_69 ?_
            refine r_iconst (z := 5) C dX5_reads_72 rfl ?_
            refine r_aload_n C dX5_reads_73 hl 1 rfl ?_
            refine r_get (v := .int (iI (M_written))) C f_X5_236 hW.1 0 rfl rfl dX5_reads_74 ?_
            refine r_imul C dX5_reads_77 ?_
            refine r_iconst (z := 1) C dX5_reads_78 rfl ?_
            refine r_iadd C dX5_reads_79 ?_
            refine r_iload_n C dX5_reads_80 hl 3 rfl ?_
            refine r_iadd C dX5_reads_81 ?_
            refine r_iload C dX5_reads_82 hl 0 rfl ?_
            refine r_iast (f := O) C hW (mF g o ad (M_refused) (M_now) (M_kept) (M_states) (M_place) (M_startFact) (M_node) (M_fact) (M_ahead) (M_inside) (M_entries) (M_caller) (M_following) (M_firstCaller) (M_lastCaller) (M_callers) (M_known) (M_loose) (M_stack) (M_high) (M_pairs) (M_told) (M_text) (M_typed) (up O (((5 * (M_written)) + 1) + i) ((rNum ((M_typed)) ((M_text)) (p)).1)) (M_written) ((rNum ((M_typed)) ((M_text)) (p)).2)) 18 rfl (Nat.le_of_ble_eq_true rfl) (by omega) rfl dX5_reads_84 (fun H locs hW => ?_)
            refine r_iinc (v := i + 1) C [(3, .int (iI (i + 1))), (4, .int (iI ((rNum ((M_typed)) ((M_text)) (p)).1))), (0, .ref (o)), (2, .int (iI (xBehind (if (M_look) < (M_typed) then (M_text) (M_look) else -1))))] dX5_reads_85 hl 3 rfl (by decide) (by omega) rfl (fun ls hl => ?_)
            refine r_goto C 49 dX5_reads_88 (by decide) ?_
            exact ih49 (i + 1) _ _ (by omega) (by omega) (by omega) (up_rng hO _ (by omega)) (by rw [hq]; exact if_neg hc8) _ _ ls hW (lv_sub hl [2, 3, 0] rfl)
          · skip
            refine r_iconst (z := 0) C dX5_reads_66 rfl ?_
            have hE : rReads (M_typed) (M_text) (M_look) (M_orders) (M_written) = (false, (rNum ((M_typed)) ((M_text)) (p)).2, O, M_written) := by
              have hN : rN (M_typed) (M_text) (M_look) (M_orders) (M_written) = (false, (rNum (M_typed) (M_text) p).2, O) := by rw [hq]; exact if_pos (by omega)
              unfold rReads; rw [if_neg (show ¬ xBehind (bAt (M_typed) (M_text) (M_look)) = -1 from hnb), hN]; exact if_neg Bool.false_ne_true
            exact MW_zret (d := (rReads (M_typed) (M_text) (M_look) (M_orders) (M_written)).1 = true) C hAe hrt hlk hW dX5_reads_67 (by rw [hE]; exact (bI_f Bool.false_ne_true).symm) rfl (by rw [hE])
    exact hloop49 (xBehind (if M_look < M_typed then M_text (M_look) else -1)).toNat 0 _ _ (by omega) (by omega) (by omega) (up_rng hM_orders _ (show 0 ≤ (if M_look < M_typed then M_text (M_look) else -1) ∧ (if M_look < M_typed then M_text (M_look) else -1) ≤ 999 by rw [if_pos hlt]; have := hM_text (M_look) (by omega) (by omega); omega)) rfl _ _ ls hW (lv_sub hl [3, 1, 0] rfl)
  · skip
    refine r_iconst (z := 0) C dX5_reads_19 rfl ?_
    have hE : rReads (M_typed) (M_text) (M_look) (M_orders) (M_written) = (false, M_look, M_orders, M_written) := if_pos (show xBehind (if M_look < M_typed then M_text (M_look) else -1) = -1 by omega)
    exact MW_zret (d := (rReads (M_typed) (M_text) (M_look) (M_orders) (M_written)).1 = true) C hAe hrt hlk hW dX5_reads_20 (by rw [hE]; exact (bI_f Bool.false_ne_true).symm) rfl (by rw [hE])
set_option maxHeartbeats 4000000 in
set_option maxRecDepth 100000 in
theorem c_X5_acted (l : Launch) (g : GG) (o : Nat) (ad : Nat → Nat) (M_refused : (Int → Int)) (M_now : (Int → Int)) (M_kept : (Int → Int)) (M_states : Int) (M_place : (Int → Int)) (M_startFact : (Int → Int)) (M_node : (Int → Int)) (M_fact : (Int → Int)) (M_ahead : (Int → Int)) (M_inside : (Int → Int)) (M_entries : Int) (M_caller : (Int → Int)) (M_following : (Int → Int)) (M_firstCaller : (Int → Int)) (M_lastCaller : (Int → Int)) (M_callers : Int) (M_known : Int) (M_loose : (Int → Int)) (M_stack : (Int → Int)) (M_high : Int) (M_pairs : (Int → Int)) (M_told : Int) (M_text : (Int → Int)) (M_typed : Int) (M_orders : (Int → Int)) (M_written : Int) (M_look : Int) (k : Int) (hM : mOk (M_refused, M_now, M_kept, M_states, M_place, M_startFact, M_node, M_fact, M_ahead, M_inside, M_entries, M_caller, M_following, M_firstCaller, M_lastCaller, M_callers, M_known, M_loose, M_stack, M_high, M_pairs, M_told, M_text, M_typed, M_orders, M_written, M_look)) (hN : nOk (M_now)) (hk : 0 ≤ k ∧ k < 60) : MW l g yX5_acted cX5_acted 6 (some .int) 4 91 [.ref (o), .int (iI (k))] (mF g o ad (M_refused) (M_now) (M_kept) (M_states) (M_place) (M_startFact) (M_node) (M_fact) (M_ahead) (M_inside) (M_entries) (M_caller) (M_following) (M_firstCaller) (M_lastCaller) (M_callers) (M_known) (M_loose) (M_stack) (M_high) (M_pairs) (M_told) (M_text) (M_typed) (M_orders) (M_written) (M_look)) (mF g o ad (M_refused) ((nActed (M_now) (M_orders) k).2) (M_kept) (M_states) (M_place) (M_startFact) (M_node) (M_fact) (M_ahead) (M_inside) (M_entries) (M_caller) (M_following) (M_firstCaller) (M_lastCaller) (M_callers) (M_known) (M_loose) (M_stack) (M_high) (M_pairs) (M_told) (M_text) (M_typed) (M_orders) (M_written) (M_look)) (some (.int (iI ((nActed (M_now) (M_orders) k).1)))) := by
  refine MW_start (by decide) (Nat.le_of_ble_eq_true rfl) ?_
  intro zp ze zs zm zb zt zc A hAe C hrt hlk hW ls hl
  have hA : ∀ q, zs.heap.size ≤ q → A q := fun q h => by rw [hAe]; exact Or.inr h
  have hl : lv_has ls 6 [(0, .ref (o)), (1, .int (iI (k)))] := hl
  have hM_refused : ∀ j : Int, 0 ≤ j → j < 3 → 0 ≤ M_refused j ∧ M_refused j ≤ 1000000 := hM.1
  have hM_states : 0 ≤ M_states ∧ M_states ≤ 5 := hM.2.1
  have hM_place : ∀ j : Int, 0 ≤ j → j < 1536 → 0 ≤ M_place j ∧ M_place j ≤ 1536 := hM.2.2.1
  have hM_startFact : ∀ j : Int, 0 ≤ j → j < 1536 → 0 ≤ M_startFact j ∧ M_startFact j ≤ 7 := hM.2.2.2.1
  have hM_node : ∀ j : Int, 0 ≤ j → j < 1536 → 0 ≤ M_node j ∧ M_node j ≤ 23 := hM.2.2.2.2.1
  have hM_fact : ∀ j : Int, 0 ≤ j → j < 1536 → 0 ≤ M_fact j ∧ M_fact j ≤ 7 := hM.2.2.2.2.2.1
  have hM_ahead : ∀ j : Int, 0 ≤ j → j < 1536 → -1 ≤ M_ahead j ∧ M_ahead j ≤ 1535 := hM.2.2.2.2.2.2.1
  have hM_inside : ∀ j : Int, 0 ≤ j → j < 1536 → -1 ≤ M_inside j ∧ M_inside j ≤ 1535 := hM.2.2.2.2.2.2.2.1
  have hM_entries : 0 ≤ M_entries ∧ M_entries ≤ 1536 := hM.2.2.2.2.2.2.2.2.1
  have hM_caller : ∀ j : Int, 0 ≤ j → j < 16384 → 0 ≤ M_caller j ∧ M_caller j ≤ 49151 := hM.2.2.2.2.2.2.2.2.2.1
  have hM_following : ∀ j : Int, 0 ≤ j → j < 16384 → -1 ≤ M_following j ∧ M_following j ≤ 16383 := hM.2.2.2.2.2.2.2.2.2.2.1
  have hM_firstCaller : ∀ j : Int, 0 ≤ j → j < 40 → -1 ≤ M_firstCaller j ∧ M_firstCaller j ≤ 16383 := hM.2.2.2.2.2.2.2.2.2.2.2.1
  have hM_lastCaller : ∀ j : Int, 0 ≤ j → j < 40 → -1 ≤ M_lastCaller j ∧ M_lastCaller j ≤ 16383 := hM.2.2.2.2.2.2.2.2.2.2.2.2.1
  have hM_callers : 0 ≤ M_callers ∧ M_callers ≤ 16384 := hM.2.2.2.2.2.2.2.2.2.2.2.2.2.1
  have hM_known : 0 ≤ M_known ∧ M_known ≤ 1 := hM.2.2.2.2.2.2.2.2.2.2.2.2.2.2.1
  have hM_loose : ∀ j : Int, 0 ≤ j → j < 24 → 0 ≤ M_loose j ∧ M_loose j ≤ 255 := hM.2.2.2.2.2.2.2.2.2.2.2.2.2.2.2.1
  have hM_stack : ∀ j : Int, 0 ≤ j → j < 8000 → 0 ≤ M_stack j ∧ M_stack j ≤ 6143 := hM.2.2.2.2.2.2.2.2.2.2.2.2.2.2.2.2.1
  have hM_high : 0 ≤ M_high ∧ M_high ≤ 8000 := hM.2.2.2.2.2.2.2.2.2.2.2.2.2.2.2.2.2.1
  have hM_pairs : ∀ j : Int, 0 ≤ j → j < 1000 → 0 ≤ M_pairs j ∧ M_pairs j ≤ 239 := hM.2.2.2.2.2.2.2.2.2.2.2.2.2.2.2.2.2.2.1
  have hM_told : 0 ≤ M_told ∧ M_told ≤ 1000 := hM.2.2.2.2.2.2.2.2.2.2.2.2.2.2.2.2.2.2.2.1
  have hM_text : ∀ j : Int, 0 ≤ j → j < 120 → 0 ≤ M_text j ∧ M_text j ≤ 127 := hM.2.2.2.2.2.2.2.2.2.2.2.2.2.2.2.2.2.2.2.2.1
  have hM_typed : 0 ≤ M_typed ∧ M_typed ≤ 120 := hM.2.2.2.2.2.2.2.2.2.2.2.2.2.2.2.2.2.2.2.2.2.1
  have hM_orders : ∀ j : Int, 0 ≤ j → j < 300 → 0 ≤ M_orders j ∧ M_orders j ≤ 999 := hM.2.2.2.2.2.2.2.2.2.2.2.2.2.2.2.2.2.2.2.2.2.2.1
  have hM_written : 0 ≤ M_written ∧ M_written ≤ 60 := hM.2.2.2.2.2.2.2.2.2.2.2.2.2.2.2.2.2.2.2.2.2.2.2.1
  have hM_look : 0 ≤ M_look ∧ M_look ≤ 120 := hM.2.2.2.2.2.2.2.2.2.2.2.2.2.2.2.2.2.2.2.2.2.2.2.2
  have hN_0 := hN.1
  have hN_1 := hN.2.1
  have hN_2 := hN.2.2.1
  have hN_3 := hN.2.2.2.1
  refine r_aload_n C dX5_acted_0 hl 0 rfl ?_
  refine r_get (v := .ref (ad 17)) C f_X5_61 hW.1 0 rfl rfl dX5_acted_1 ?_
  refine r_iconst (z := 5) C dX5_acted_4 rfl ?_
  refine r_iload_n C dX5_acted_5 hl 1 rfl ?_
  refine r_imul C dX5_acted_6 ?_
  refine r_iald (f := M_orders) C hW.1 18 rfl (Nat.le_of_ble_eq_true rfl) (by omega) dX5_acted_7 ?_
  have hr1 := hM_orders (5 * k) (by omega) (by omega)
  refine r_istore_n C [(2, .int (iI (M_orders (5 * k)))), (0, .ref (o)), (1, .int (iI (k)))] dX5_acted_8 hl (by decide) rfl (fun ls hl => ?_)
  refine r_aload_n C dX5_acted_9 hl 1 rfl ?_
  refine r_get (v := .ref (ad 17)) C f_X5_61 hW.1 0 rfl rfl dX5_acted_10 ?_
  refine r_iconst (z := 5) C dX5_acted_13 rfl ?_
  refine r_iload_n C dX5_acted_14 hl 2 rfl ?_
  refine r_imul C dX5_acted_15 ?_
  refine r_iconst (z := 1) C dX5_acted_16 rfl ?_
  refine r_iadd C dX5_acted_17 ?_
  refine r_iald (f := M_orders) C hW.1 18 rfl (Nat.le_of_ble_eq_true rfl) (by omega) dX5_acted_18 ?_
  have hr2 := hM_orders ((5 * k) + 1) (by omega) (by omega)
  refine r_istore_n C [(3, .int (iI (M_orders ((5 * k) + 1)))), (2, .int (iI (M_orders (5 * k)))), (0, .ref (o)), (1, .int (iI (k)))] dX5_acted_19 hl (by decide) rfl (fun ls hl => ?_)
  refine r_aload_n C dX5_acted_20 hl 2 rfl ?_
  refine r_get (v := .ref (ad 17)) C f_X5_61 hW.1 0 rfl rfl dX5_acted_21 ?_
  refine r_iconst (z := 5) C dX5_acted_24 rfl ?_
  refine r_iload_n C dX5_acted_25 hl 3 rfl ?_
  refine r_imul C dX5_acted_26 ?_
  refine r_iconst (z := 2) C dX5_acted_27 rfl ?_
  refine r_iadd C dX5_acted_28 ?_
  refine r_iald (f := M_orders) C hW.1 18 rfl (Nat.le_of_ble_eq_true rfl) (by omega) dX5_acted_29 ?_
  have hr3 := hM_orders ((5 * k) + 2) (by omega) (by omega)
  refine r_istore C [(4, .int (iI (M_orders ((5 * k) + 2)))), (3, .int (iI (M_orders ((5 * k) + 1)))), (2, .int (iI (M_orders (5 * k)))), (0, .ref (o)), (1, .int (iI (k)))] dX5_acted_30 hl (by decide) rfl (fun ls hl => ?_)
  refine r_aload_n C dX5_acted_32 hl 3 rfl ?_
  refine r_get (v := .ref (ad 17)) C f_X5_61 hW.1 0 rfl rfl dX5_acted_33 ?_
  refine r_iconst (z := 5) C dX5_acted_36 rfl ?_
  refine r_iload_n C dX5_acted_37 hl 4 rfl ?_
  refine r_imul C dX5_acted_38 ?_
  refine r_iconst (z := 3) C dX5_acted_39 rfl ?_
  refine r_iadd C dX5_acted_40 ?_
  refine r_iald (f := M_orders) C hW.1 18 rfl (Nat.le_of_ble_eq_true rfl) (by omega) dX5_acted_41 ?_
  have hr4 := hM_orders ((5 * k) + 3) (by omega) (by omega)
  refine r_istore C [(5, .int (iI (M_orders ((5 * k) + 3)))), (4, .int (iI (M_orders ((5 * k) + 2)))), (3, .int (iI (M_orders ((5 * k) + 1)))), (2, .int (iI (M_orders (5 * k)))), (0, .ref (o)), (1, .int (iI (k)))] dX5_acted_42 hl (by decide) rfl (fun ls hl => ?_)
  refine r_iload_n C dX5_acted_44 hl 3 rfl ?_
  refine r_bipush (z := 112) C dX5_acted_45 rfl ?_
  refine r_icmp_ne C 57 dX5_acted_47 (by decide) (by omega) (by omega) (fun hc5 => ?_) (fun hc5 => ?_)
  · skip
    refine r_iload_n C dX5_acted_57 hl 3 rfl ?_
    refine r_bipush (z := 110) C dX5_acted_58 rfl ?_
    refine r_icmp_ne C 71 dX5_acted_60 (by decide) (by omega) (by omega) (fun hc6 => ?_) (fun hc6 => ?_)
    · skip
      refine r_iload_n C dX5_acted_71 hl 3 rfl ?_
      refine r_bipush (z := 101) C dX5_acted_72 rfl ?_
      refine r_icmp_ne C 88 dX5_acted_74 (by decide) (by omega) (by omega) (fun hc7 => ?_) (fun hc7 => ?_)
      · skip
        refine r_iload_n C dX5_acted_88 hl 3 rfl ?_
        refine r_bipush (z := 99) C dX5_acted_89 rfl ?_
        refine r_icmp_ne C 106 dX5_acted_91 (by decide) (by omega) (by omega) (fun hc8 => ?_) (fun hc8 => ?_)
        · skip
          refine r_iload_n C dX5_acted_106 hl 3 rfl ?_
          refine r_bipush (z := 102) C dX5_acted_107 rfl ?_
          refine r_icmp_ne C 134 dX5_acted_109 (by decide) (by omega) (by omega) (fun hc9 => ?_) (fun hc9 => ?_)
          · skip
            refine r_iload_n C dX5_acted_134 hl 3 rfl ?_
            refine r_bipush (z := 115) C dX5_acted_135 rfl ?_
            refine r_icmp_ne C 148 dX5_acted_137 (by decide) (by omega) (by omega) (fun hc10 => ?_) (fun hc10 => ?_)
            · skip
              refine r_aload_n C dX5_acted_148 hl 4 rfl ?_
              refine r_iload_n C dX5_acted_149 hl 2 rfl ?_
              refine r_callW (rest := []) (r := some (.int (iI ((nCut ((M_now)) (M_orders ((5 * k) + 1))).1)))) (wr := []) (ws2 := mF g o ad (M_refused) ((nCut ((M_now)) (M_orders ((5 * k) + 1))).2) (M_kept) (M_states) (M_place) (M_startFact) (M_node) (M_fact) (M_ahead) (M_inside) (M_entries) (M_caller) (M_following) (M_firstCaller) (M_lastCaller) (M_callers) (M_known) (M_loose) (M_stack) (M_high) (M_pairs) (M_told) (M_text) (M_typed) (M_orders) (M_written) (M_look)) (st1 := [.int (iI ((nCut ((M_now)) (M_orders ((5 * k) + 1))).1))]) C hl.1 hW hA (c_X5_cutEdge l g o ad (M_refused) (M_now) (M_kept) (M_states) (M_place) (M_startFact) (M_node) (M_fact) (M_ahead) (M_inside) (M_entries) (M_caller) (M_following) (M_firstCaller) (M_lastCaller) (M_callers) (M_known) (M_loose) (M_stack) (M_high) (M_pairs) (M_told) (M_text) (M_typed) (M_orders) (M_written) (M_look) (M_orders ((5 * k) + 1)) (by assumption) (show rg (M_orders ((5 * k) + 1)) by omega)) v_X5_152 rfl [0, 1, 2, 3, 4, 5, 6, 7, 8, 9, 10, 11, 12, 13, 14, 15, 16, 17, 18] [] [0, 1, 2, 3, 4, 5, 6, 7, 8, 9, 10, 11, 12, 13, 14, 15, 16, 17, 18] rfl rfl (by decide) (by decide) rfl rfl 0 rfl rfl rfl (by decide) (by decide) (Nat.le_of_ble_eq_true rfl) dX5_acted_150 rfl rfl (fun H locs hW => ?_)
              have hE : nActed (M_now) (M_orders) k = nCut ((M_now)) (M_orders ((5 * k) + 1)) := (if_neg hc5).trans ((if_neg hc6).trans ((if_neg hc7).trans ((if_neg hc8).trans ((if_neg hc9).trans ((if_neg hc10).trans (rfl))))))
              exact MW_iret C hAe hrt hlk hW dX5_acted_153 (iw (by rw [hE])) (by rw [hE])
            · skip
              refine r_aload_n C dX5_acted_140 hl 4 rfl ?_
              refine r_iload_n C dX5_acted_141 hl 2 rfl ?_
              refine r_callW (rest := []) (r := some (.int (iI ((nSetStart ((M_now)) (M_orders ((5 * k) + 1))).1)))) (wr := []) (ws2 := mF g o ad (M_refused) ((nSetStart ((M_now)) (M_orders ((5 * k) + 1))).2) (M_kept) (M_states) (M_place) (M_startFact) (M_node) (M_fact) (M_ahead) (M_inside) (M_entries) (M_caller) (M_following) (M_firstCaller) (M_lastCaller) (M_callers) (M_known) (M_loose) (M_stack) (M_high) (M_pairs) (M_told) (M_text) (M_typed) (M_orders) (M_written) (M_look)) (st1 := [.int (iI ((nSetStart ((M_now)) (M_orders ((5 * k) + 1))).1))]) C hl.1 hW hA (c_X5_setStart l g o ad (M_refused) (M_now) (M_kept) (M_states) (M_place) (M_startFact) (M_node) (M_fact) (M_ahead) (M_inside) (M_entries) (M_caller) (M_following) (M_firstCaller) (M_lastCaller) (M_callers) (M_known) (M_loose) (M_stack) (M_high) (M_pairs) (M_told) (M_text) (M_typed) (M_orders) (M_written) (M_look) (M_orders ((5 * k) + 1)) (by assumption) (show rg (M_orders ((5 * k) + 1)) by omega)) v_X5_149 rfl [0, 1, 2, 3, 4, 5, 6, 7, 8, 9, 10, 11, 12, 13, 14, 15, 16, 17, 18] [] [0, 1, 2, 3, 4, 5, 6, 7, 8, 9, 10, 11, 12, 13, 14, 15, 16, 17, 18] rfl rfl (by decide) (by decide) rfl rfl 0 rfl rfl rfl (by decide) (by decide) (Nat.le_of_ble_eq_true rfl) dX5_acted_142 rfl rfl (fun H locs hW => ?_)
              refine r_goto C 153 dX5_acted_145 (by decide) ?_
              have hE : nActed (M_now) (M_orders) k = nSetStart ((M_now)) (M_orders ((5 * k) + 1)) := (if_neg hc5).trans ((if_neg hc6).trans ((if_neg hc7).trans ((if_neg hc8).trans ((if_neg hc9).trans (if_pos hc10)))))
              exact MW_iret C hAe hrt hlk hW dX5_acted_153 (iw (by rw [hE])) (by rw [hE])
          · skip
            refine r_aload_n C dX5_acted_112 hl 4 rfl ?_
            refine r_iload_n C dX5_acted_113 hl 2 rfl ?_
            refine r_iload C dX5_acted_114 hl 1 rfl ?_
            refine r_iload C dX5_acted_116 hl 0 rfl ?_
            refine r_aload_n C dX5_acted_118 hl 4 rfl ?_
            refine r_get (v := .ref (ad 17)) C f_X5_61 hW.1 0 rfl rfl dX5_acted_119 ?_
            refine r_iconst (z := 5) C dX5_acted_122 rfl ?_
            refine r_iload_n C dX5_acted_123 hl 5 rfl ?_
            refine r_imul C dX5_acted_124 ?_
            refine r_iconst (z := 4) C dX5_acted_125 rfl ?_
            refine r_iadd C dX5_acted_126 ?_
            refine r_iald (f := M_orders) C hW.1 18 rfl (Nat.le_of_ble_eq_true rfl) (by omega) dX5_acted_127 ?_
            have hr11 := hM_orders ((5 * k) + 4) (by omega) (by omega)
            refine r_callW (rest := []) (r := some (.int (iI ((nSetFlow ((M_now)) (M_orders ((5 * k) + 1)) (M_orders ((5 * k) + 2)) (M_orders ((5 * k) + 3)) (M_orders ((5 * k) + 4))).1)))) (wr := []) (ws2 := mF g o ad (M_refused) ((nSetFlow ((M_now)) (M_orders ((5 * k) + 1)) (M_orders ((5 * k) + 2)) (M_orders ((5 * k) + 3)) (M_orders ((5 * k) + 4))).2) (M_kept) (M_states) (M_place) (M_startFact) (M_node) (M_fact) (M_ahead) (M_inside) (M_entries) (M_caller) (M_following) (M_firstCaller) (M_lastCaller) (M_callers) (M_known) (M_loose) (M_stack) (M_high) (M_pairs) (M_told) (M_text) (M_typed) (M_orders) (M_written) (M_look)) (st1 := [.int (iI ((nSetFlow ((M_now)) (M_orders ((5 * k) + 1)) (M_orders ((5 * k) + 2)) (M_orders ((5 * k) + 3)) (M_orders ((5 * k) + 4))).1))]) C hl.1 hW hA (c_X5_setFlow l g o ad (M_refused) (M_now) (M_kept) (M_states) (M_place) (M_startFact) (M_node) (M_fact) (M_ahead) (M_inside) (M_entries) (M_caller) (M_following) (M_firstCaller) (M_lastCaller) (M_callers) (M_known) (M_loose) (M_stack) (M_high) (M_pairs) (M_told) (M_text) (M_typed) (M_orders) (M_written) (M_look) (M_orders ((5 * k) + 1)) (M_orders ((5 * k) + 2)) (M_orders ((5 * k) + 3)) (M_orders ((5 * k) + 4)) (by assumption) (show rg (M_orders ((5 * k) + 1)) by omega) (show rg (M_orders ((5 * k) + 2)) by omega) (show rg (M_orders ((5 * k) + 3)) by omega) (show rg (M_orders ((5 * k) + 4)) by omega)) v_X5_145 rfl [0, 1, 2, 3, 4, 5, 6, 7, 8, 9, 10, 11, 12, 13, 14, 15, 16, 17, 18] [] [0, 1, 2, 3, 4, 5, 6, 7, 8, 9, 10, 11, 12, 13, 14, 15, 16, 17, 18] rfl rfl (by decide) (by decide) rfl rfl 0 rfl rfl rfl (by decide) (by decide) (Nat.le_of_ble_eq_true rfl) dX5_acted_128 rfl rfl (fun H locs hW => ?_)
            refine r_goto C 153 dX5_acted_131 (by decide) ?_
            have hE : nActed (M_now) (M_orders) k = nSetFlow ((M_now)) (M_orders ((5 * k) + 1)) (M_orders ((5 * k) + 2)) (M_orders ((5 * k) + 3)) (M_orders ((5 * k) + 4)) := (if_neg hc5).trans ((if_neg hc6).trans ((if_neg hc7).trans ((if_neg hc8).trans (if_pos hc9))))
            exact MW_iret C hAe hrt hlk hW dX5_acted_153 (iw (by rw [hE])) (by rw [hE])
        · skip
          refine r_aload_n C dX5_acted_94 hl 4 rfl ?_
          refine r_iload_n C dX5_acted_95 hl 2 rfl ?_
          refine r_iload C dX5_acted_96 hl 1 rfl ?_
          refine r_iload C dX5_acted_98 hl 0 rfl ?_
          refine r_callW (rest := []) (r := some (.int (iI ((nAddCall ((M_now)) (M_orders ((5 * k) + 1)) (M_orders ((5 * k) + 2)) (M_orders ((5 * k) + 3))).1)))) (wr := []) (ws2 := mF g o ad (M_refused) ((nAddCall ((M_now)) (M_orders ((5 * k) + 1)) (M_orders ((5 * k) + 2)) (M_orders ((5 * k) + 3))).2) (M_kept) (M_states) (M_place) (M_startFact) (M_node) (M_fact) (M_ahead) (M_inside) (M_entries) (M_caller) (M_following) (M_firstCaller) (M_lastCaller) (M_callers) (M_known) (M_loose) (M_stack) (M_high) (M_pairs) (M_told) (M_text) (M_typed) (M_orders) (M_written) (M_look)) (st1 := [.int (iI ((nAddCall ((M_now)) (M_orders ((5 * k) + 1)) (M_orders ((5 * k) + 2)) (M_orders ((5 * k) + 3))).1))]) C hl.1 hW hA (c_X5_addCall l g o ad (M_refused) (M_now) (M_kept) (M_states) (M_place) (M_startFact) (M_node) (M_fact) (M_ahead) (M_inside) (M_entries) (M_caller) (M_following) (M_firstCaller) (M_lastCaller) (M_callers) (M_known) (M_loose) (M_stack) (M_high) (M_pairs) (M_told) (M_text) (M_typed) (M_orders) (M_written) (M_look) (M_orders ((5 * k) + 1)) (M_orders ((5 * k) + 2)) (M_orders ((5 * k) + 3)) (by assumption) (show rg (M_orders ((5 * k) + 1)) by omega) (show rg (M_orders ((5 * k) + 2)) by omega) (show rg (M_orders ((5 * k) + 3)) by omega)) v_X5_142 rfl [0, 1, 2, 3, 4, 5, 6, 7, 8, 9, 10, 11, 12, 13, 14, 15, 16, 17, 18] [] [0, 1, 2, 3, 4, 5, 6, 7, 8, 9, 10, 11, 12, 13, 14, 15, 16, 17, 18] rfl rfl (by decide) (by decide) rfl rfl 0 rfl rfl rfl (by decide) (by decide) (Nat.le_of_ble_eq_true rfl) dX5_acted_100 rfl rfl (fun H locs hW => ?_)
          refine r_goto C 153 dX5_acted_103 (by decide) ?_
          have hE : nActed (M_now) (M_orders) k = nAddCall ((M_now)) (M_orders ((5 * k) + 1)) (M_orders ((5 * k) + 2)) (M_orders ((5 * k) + 3)) := (if_neg hc5).trans ((if_neg hc6).trans ((if_neg hc7).trans (if_pos hc8)))
          exact MW_iret C hAe hrt hlk hW dX5_acted_153 (iw (by rw [hE])) (by rw [hE])
      · skip
        refine r_aload_n C dX5_acted_77 hl 4 rfl ?_
        refine r_iload_n C dX5_acted_78 hl 2 rfl ?_
        refine r_iload C dX5_acted_79 hl 1 rfl ?_
        refine r_iconst (z := -1) C dX5_acted_81 rfl ?_
        refine r_callW (rest := []) (r := some (.int (iI ((nAddEdge ((M_now)) (M_orders ((5 * k) + 1)) (M_orders ((5 * k) + 2)) (-1)).1)))) (wr := []) (ws2 := mF g o ad (M_refused) ((nAddEdge ((M_now)) (M_orders ((5 * k) + 1)) (M_orders ((5 * k) + 2)) (-1)).2) (M_kept) (M_states) (M_place) (M_startFact) (M_node) (M_fact) (M_ahead) (M_inside) (M_entries) (M_caller) (M_following) (M_firstCaller) (M_lastCaller) (M_callers) (M_known) (M_loose) (M_stack) (M_high) (M_pairs) (M_told) (M_text) (M_typed) (M_orders) (M_written) (M_look)) (st1 := [.int (iI ((nAddEdge ((M_now)) (M_orders ((5 * k) + 1)) (M_orders ((5 * k) + 2)) (-1)).1))]) C hl.1 hW hA (c_X5_addEdge l g o ad (M_refused) (M_now) (M_kept) (M_states) (M_place) (M_startFact) (M_node) (M_fact) (M_ahead) (M_inside) (M_entries) (M_caller) (M_following) (M_firstCaller) (M_lastCaller) (M_callers) (M_known) (M_loose) (M_stack) (M_high) (M_pairs) (M_told) (M_text) (M_typed) (M_orders) (M_written) (M_look) (M_orders ((5 * k) + 1)) (M_orders ((5 * k) + 2)) (-1) (by assumption) (show rg (M_orders ((5 * k) + 1)) by omega) (show rg (M_orders ((5 * k) + 2)) by omega) (show rg (-1) by omega)) v_X5_111 rfl [0, 1, 2, 3, 4, 5, 6, 7, 8, 9, 10, 11, 12, 13, 14, 15, 16, 17, 18] [] [0, 1, 2, 3, 4, 5, 6, 7, 8, 9, 10, 11, 12, 13, 14, 15, 16, 17, 18] rfl rfl (by decide) (by decide) rfl rfl 0 rfl rfl rfl (by decide) (by decide) (Nat.le_of_ble_eq_true rfl) dX5_acted_82 rfl rfl (fun H locs hW => ?_)
        refine r_goto C 153 dX5_acted_85 (by decide) ?_
        have hE : nActed (M_now) (M_orders) k = nAddEdge ((M_now)) (M_orders ((5 * k) + 1)) (M_orders ((5 * k) + 2)) (-1) := (if_neg hc5).trans ((if_neg hc6).trans (if_pos hc7))
        exact MW_iret C hAe hrt hlk hW dX5_acted_153 (iw (by rw [hE])) (by rw [hE])
    · skip
      refine r_aload_n C dX5_acted_63 hl 4 rfl ?_
      refine r_iload_n C dX5_acted_64 hl 2 rfl ?_
      refine r_callW (rest := []) (r := some (.int (iI ((nAddAny ((M_now)) (M_orders ((5 * k) + 1))).1)))) (wr := []) (ws2 := mF g o ad (M_refused) ((nAddAny ((M_now)) (M_orders ((5 * k) + 1))).2) (M_kept) (M_states) (M_place) (M_startFact) (M_node) (M_fact) (M_ahead) (M_inside) (M_entries) (M_caller) (M_following) (M_firstCaller) (M_lastCaller) (M_callers) (M_known) (M_loose) (M_stack) (M_high) (M_pairs) (M_told) (M_text) (M_typed) (M_orders) (M_written) (M_look)) (st1 := [.int (iI ((nAddAny ((M_now)) (M_orders ((5 * k) + 1))).1))]) C hl.1 hW hA (c_X5_addAny l g o ad (M_refused) (M_now) (M_kept) (M_states) (M_place) (M_startFact) (M_node) (M_fact) (M_ahead) (M_inside) (M_entries) (M_caller) (M_following) (M_firstCaller) (M_lastCaller) (M_callers) (M_known) (M_loose) (M_stack) (M_high) (M_pairs) (M_told) (M_text) (M_typed) (M_orders) (M_written) (M_look) (M_orders ((5 * k) + 1)) (by assumption) (show rg (M_orders ((5 * k) + 1)) by omega)) v_X5_139 rfl [0, 1, 2, 3, 4, 5, 6, 7, 8, 9, 10, 11, 12, 13, 14, 15, 16, 17, 18] [] [0, 1, 2, 3, 4, 5, 6, 7, 8, 9, 10, 11, 12, 13, 14, 15, 16, 17, 18] rfl rfl (by decide) (by decide) rfl rfl 0 rfl rfl rfl (by decide) (by decide) (Nat.le_of_ble_eq_true rfl) dX5_acted_65 rfl rfl (fun H locs hW => ?_)
      refine r_goto C 153 dX5_acted_68 (by decide) ?_
      have hE : nActed (M_now) (M_orders) k = nAddAny ((M_now)) (M_orders ((5 * k) + 1)) := (if_neg hc5).trans (if_pos hc6)
      exact MW_iret C hAe hrt hlk hW dX5_acted_153 (iw (by rw [hE])) (by rw [hE])
  · skip
    refine r_aload_n C dX5_acted_50 hl 4 rfl ?_
    refine r_callW (rest := []) (r := some (.int (iI ((nAddProc ((M_now))).1)))) (wr := []) (ws2 := mF g o ad (M_refused) ((nAddProc ((M_now))).2) (M_kept) (M_states) (M_place) (M_startFact) (M_node) (M_fact) (M_ahead) (M_inside) (M_entries) (M_caller) (M_following) (M_firstCaller) (M_lastCaller) (M_callers) (M_known) (M_loose) (M_stack) (M_high) (M_pairs) (M_told) (M_text) (M_typed) (M_orders) (M_written) (M_look)) (st1 := [.int (iI ((nAddProc ((M_now))).1))]) C hl.1 hW hA (c_X5_addProc l g o ad (M_refused) (M_now) (M_kept) (M_states) (M_place) (M_startFact) (M_node) (M_fact) (M_ahead) (M_inside) (M_entries) (M_caller) (M_following) (M_firstCaller) (M_lastCaller) (M_callers) (M_known) (M_loose) (M_stack) (M_high) (M_pairs) (M_told) (M_text) (M_typed) (M_orders) (M_written) (M_look)  (by assumption)) v_X5_64 rfl [0, 1, 2, 3, 4, 5, 6, 7, 8, 9, 10, 11, 12, 13, 14, 15, 16, 17, 18] [] [0, 1, 2, 3, 4, 5, 6, 7, 8, 9, 10, 11, 12, 13, 14, 15, 16, 17, 18] rfl rfl (by decide) (by decide) rfl rfl 0 rfl rfl rfl (by decide) (by decide) (Nat.le_of_ble_eq_true rfl) dX5_acted_51 rfl rfl (fun H locs hW => ?_)
    refine r_goto C 153 dX5_acted_54 (by decide) ?_
    have hE : nActed (M_now) (M_orders) k = nAddProc ((M_now)) := if_pos hc5
    exact MW_iret C hAe hrt hlk hW dX5_acted_153 (iw (by rw [hE])) (by rw [hE])

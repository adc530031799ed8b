theorem opq {α : Type} (a : α) {P : Prop} (h : ∀ y : α, a = y → P) : P := h a rfl
theorem c_X5_clearK (l : Launch) (g : GG) (o : Nat) (ad : Nat → Nat) (M : Md) (K : Md) (hK : mClr M = K) : MW l g yX5_clearTable cX5_clearTable 2 none 0 0 [.ref (o)] (mF g o ad (m_refused M) (m_now M) (m_kept M) (m_states M) (m_place M) (m_startFact M) (m_node M) (m_fact M) (m_ahead M) (m_inside M) (m_entries M) (m_caller M) (m_following M) (m_firstCaller M) (m_lastCaller M) (m_callers M) (m_known M) (m_loose M) (m_stack M) (m_high M) (m_pairs M) (m_told M) (m_text M) (m_typed M) (m_orders M) (m_written M) (m_look M)) (mF g o ad (m_refused K) (m_now K) (m_kept K) (m_states K) (m_place K) (m_startFact K) (m_node K) (m_fact K) (m_ahead K) (m_inside K) (m_entries K) (m_caller K) (m_following K) (m_firstCaller K) (m_lastCaller K) (m_callers K) (m_known K) (m_loose K) (m_stack K) (m_high K) (m_pairs K) (m_told K) (m_text K) (m_typed K) (m_orders K) (m_written K) (m_look K)) none := by
  subst hK
  have h := c_X5_clearTable l g o ad (m_refused M) (m_now M) (m_kept M) (m_states M) (m_place M) (m_startFact M) (m_node M) (m_fact M) (m_ahead M) (m_inside M) (m_entries M) (m_caller M) (m_following M) (m_firstCaller M) (m_lastCaller M) (m_callers M) (m_known M) (m_loose M) (m_stack M) (m_high M) (m_pairs M) (m_told M) (m_text M) (m_typed M) (m_orders M) (m_written M) (m_look M)  
  rw [cPl_z, cCa_z, cCa_z] at h
  exact h
theorem c_X5_comesK (l : Launch) (g : GG) (o : Nat) (ad : Nat → Nat) (M : Md) (a n b y z : Int) (K : Md) (hM : mOk M) (ha : 0 ≤ a ∧ a < 8) (hn : 0 ≤ n ∧ n < 24) (hb : 0 ≤ b ∧ b < 8) (hen : m_place M ((8 * n + a) * 8 + b) = 0 → m_entries M < 1536) (hK : mComes a n b y z M = K) : MW l g yX5_comes cX5_comes 7 none 1 22 [.ref (o), .int (iI (a)), .int (iI (n)), .int (iI (b)), .int (iI (y)), .int (iI (z))] (mF g o ad (m_refused M) (m_now M) (m_kept M) (m_states M) (m_place M) (m_startFact M) (m_node M) (m_fact M) (m_ahead M) (m_inside M) (m_entries M) (m_caller M) (m_following M) (m_firstCaller M) (m_lastCaller M) (m_callers M) (m_known M) (m_loose M) (m_stack M) (m_high M) (m_pairs M) (m_told M) (m_text M) (m_typed M) (m_orders M) (m_written M) (m_look M)) (mF g o ad (m_refused K) (m_now K) (m_kept K) (m_states K) (m_place K) (m_startFact K) (m_node K) (m_fact K) (m_ahead K) (m_inside K) (m_entries K) (m_caller K) (m_following K) (m_firstCaller K) (m_lastCaller K) (m_callers K) (m_known K) (m_loose K) (m_stack K) (m_high K) (m_pairs K) (m_told K) (m_text K) (m_typed K) (m_orders K) (m_written K) (m_look K)) none := by
  subst hK
  exact c_X5_comes l g o ad (m_refused M) (m_now M) (m_kept M) (m_states M) (m_place M) (m_startFact M) (m_node M) (m_fact M) (m_ahead M) (m_inside M) (m_entries M) (m_caller M) (m_following M) (m_firstCaller M) (m_lastCaller M) (m_callers M) (m_known M) (m_loose M) (m_stack M) (m_high M) (m_pairs M) (m_told M) (m_text M) (m_typed M) (m_orders M) (m_written M) (m_look M) a n b y z hM ha hn hb hen
theorem c_X5_fillsK (l : Launch) (g : GG) (o : Nat) (ad : Nat → Nat) (M : Md) (K : Md) (hM : mOk M) (hN : nOk (m_now M)) (hWf : nWf (m_now M)) (hV : wV (m_now M) 0 M) (hK : mFl 1536 0 M = K) : MW l g yX5_fills cX5_fills 2 none 5 126 [.ref (o)] (mF g o ad (m_refused M) (m_now M) (m_kept M) (m_states M) (m_place M) (m_startFact M) (m_node M) (m_fact M) (m_ahead M) (m_inside M) (m_entries M) (m_caller M) (m_following M) (m_firstCaller M) (m_lastCaller M) (m_callers M) (m_known M) (m_loose M) (m_stack M) (m_high M) (m_pairs M) (m_told M) (m_text M) (m_typed M) (m_orders M) (m_written M) (m_look M)) (mF g o ad (m_refused K) (m_now K) (m_kept K) (m_states K) (m_place K) (m_startFact K) (m_node K) (m_fact K) (m_ahead K) (m_inside K) (m_entries K) (m_caller K) (m_following K) (m_firstCaller K) (m_lastCaller K) (m_callers K) (m_known K) (m_loose K) (m_stack K) (m_high K) (m_pairs K) (m_told K) (m_text K) (m_typed K) (m_orders K) (m_written K) (m_look K)) none := by
  subst hK
  exact c_X5_fills l g o ad M  hM hN hWf hV
set_option maxHeartbeats 4000000 in
set_option maxRecDepth 100000 in
theorem c_X5_origins (l : Launch) (g : GG) (o : Nat) (ad : Nat → Nat) (M : Md) (n f : Int) (hM : mOk M) (hN : nOk (m_now M)) (hWf : nWf (m_now M)) (h_n : rg n) (h_f : rg f) : MW l g yX5_origins cX5_origins 5 (some .int) 6 147 [.ref (o), .int (iI (n)), .int (iI (f))] (mF g o ad (m_refused M) (m_now M) (m_kept M) (m_states M) (m_place M) (m_startFact M) (m_node M) (m_fact M) (m_ahead M) (m_inside M) (m_entries M) (m_caller M) (m_following M) (m_firstCaller M) (m_lastCaller M) (m_callers M) (m_known M) (m_loose M) (m_stack M) (m_high M) (m_pairs M) (m_told M) (m_text M) (m_typed M) (m_orders M) (m_written M) (m_look M)) (mF g o ad (m_refused ((mOrigins n f M).2)) (m_now ((mOrigins n f M).2)) (m_kept ((mOrigins n f M).2)) (m_states ((mOrigins n f M).2)) (m_place ((mOrigins n f M).2)) (m_startFact ((mOrigins n f M).2)) (m_node ((mOrigins n f M).2)) (m_fact ((mOrigins n f M).2)) (m_ahead ((mOrigins n f M).2)) (m_inside ((mOrigins n f M).2)) (m_entries ((mOrigins n f M).2)) (m_caller ((mOrigins n f M).2)) (m_following ((mOrigins n f M).2)) (m_firstCaller ((mOrigins n f M).2)) (m_lastCaller ((mOrigins n f M).2)) (m_callers ((mOrigins n f M).2)) (m_known ((mOrigins n f M).2)) (m_loose ((mOrigins n f M).2)) (m_stack ((mOrigins n f M).2)) (m_high ((mOrigins n f M).2)) (m_pairs ((mOrigins n f M).2)) (m_told ((mOrigins n f M).2)) (m_text ((mOrigins n f M).2)) (m_typed ((mOrigins n f M).2)) (m_orders ((mOrigins n f M).2)) (m_written ((mOrigins n f M).2)) (m_look ((mOrigins n f M).2))) (some (.int (iI ((mOrigins n f M).1)))) := by
  refine MW_start (by decide) (Nat.le_of_ble_eq_true rfl) ?_
  intro zp ze zs zm zb zt zc A hAe C hrt hlk hW ls hl
  have hA : ∀ q, zs.heap.size ≤ q → A q := fun q h => by rw [hAe]; exact Or.inr h
  have hl : lv_has ls 5 [(0, .ref (o)), (1, .int (iI (n))), (2, .int (iI (f)))] := hl
  have hM_refused : ∀ j : Int, 0 ≤ j → j < 3 → 0 ≤ m_refused M j ∧ m_refused M j ≤ 1000000 := hM.1
  have hM_states : 0 ≤ m_states M ∧ m_states M ≤ 5 := hM.2.1
  have hM_place : ∀ j : Int, 0 ≤ j → j < 1536 → 0 ≤ m_place M j ∧ m_place M j ≤ 1536 := hM.2.2.1
  have hM_startFact : ∀ j : Int, 0 ≤ j → j < 1536 → 0 ≤ m_startFact M j ∧ m_startFact M j ≤ 7 := hM.2.2.2.1
  have hM_node : ∀ j : Int, 0 ≤ j → j < 1536 → 0 ≤ m_node M j ∧ m_node M j ≤ 23 := hM.2.2.2.2.1
  have hM_fact : ∀ j : Int, 0 ≤ j → j < 1536 → 0 ≤ m_fact M j ∧ m_fact M j ≤ 7 := hM.2.2.2.2.2.1
  have hM_ahead : ∀ j : Int, 0 ≤ j → j < 1536 → -1 ≤ m_ahead M j ∧ m_ahead M j ≤ 1535 := hM.2.2.2.2.2.2.1
  have hM_inside : ∀ j : Int, 0 ≤ j → j < 1536 → -1 ≤ m_inside M j ∧ m_inside M j ≤ 1535 := hM.2.2.2.2.2.2.2.1
  have hM_entries : 0 ≤ m_entries M ∧ m_entries M ≤ 1536 := hM.2.2.2.2.2.2.2.2.1
  have hM_caller : ∀ j : Int, 0 ≤ j → j < 16384 → 0 ≤ m_caller M j ∧ m_caller M j ≤ 49151 := hM.2.2.2.2.2.2.2.2.2.1
  have hM_following : ∀ j : Int, 0 ≤ j → j < 16384 → -1 ≤ m_following M j ∧ m_following M j ≤ 16383 := hM.2.2.2.2.2.2.2.2.2.2.1
  have hM_firstCaller : ∀ j : Int, 0 ≤ j → j < 40 → -1 ≤ m_firstCaller M j ∧ m_firstCaller M j ≤ 16383 := hM.2.2.2.2.2.2.2.2.2.2.2.1
  have hM_lastCaller : ∀ j : Int, 0 ≤ j → j < 40 → -1 ≤ m_lastCaller M j ∧ m_lastCaller M j ≤ 16383 := hM.2.2.2.2.2.2.2.2.2.2.2.2.1
  have hM_callers : 0 ≤ m_callers M ∧ m_callers M ≤ 16384 := hM.2.2.2.2.2.2.2.2.2.2.2.2.2.1
  have hM_known : 0 ≤ m_known M ∧ m_known M ≤ 1 := hM.2.2.2.2.2.2.2.2.2.2.2.2.2.2.1
  have hM_loose : ∀ j : Int, 0 ≤ j → j < 24 → 0 ≤ m_loose M j ∧ m_loose M j ≤ 255 := hM.2.2.2.2.2.2.2.2.2.2.2.2.2.2.2.1
  have hM_stack : ∀ j : Int, 0 ≤ j → j < 8000 → 0 ≤ m_stack M j ∧ m_stack M j ≤ 6143 := hM.2.2.2.2.2.2.2.2.2.2.2.2.2.2.2.2.1
  have hM_high : 0 ≤ m_high M ∧ m_high M ≤ 8000 := hM.2.2.2.2.2.2.2.2.2.2.2.2.2.2.2.2.2.1
  have hM_pairs : ∀ j : Int, 0 ≤ j → j < 1000 → 0 ≤ m_pairs M j ∧ m_pairs M j ≤ 239 := hM.2.2.2.2.2.2.2.2.2.2.2.2.2.2.2.2.2.2.1
  have hM_told : 0 ≤ m_told M ∧ m_told M ≤ 1000 := hM.2.2.2.2.2.2.2.2.2.2.2.2.2.2.2.2.2.2.2.1
  have hM_text : ∀ j : Int, 0 ≤ j → j < 120 → 0 ≤ m_text M j ∧ m_text M j ≤ 127 := hM.2.2.2.2.2.2.2.2.2.2.2.2.2.2.2.2.2.2.2.2.1
  have hM_typed : 0 ≤ m_typed M ∧ m_typed M ≤ 120 := hM.2.2.2.2.2.2.2.2.2.2.2.2.2.2.2.2.2.2.2.2.2.1
  have hM_orders : ∀ j : Int, 0 ≤ j → j < 300 → 0 ≤ m_orders M j ∧ m_orders M j ≤ 999 := hM.2.2.2.2.2.2.2.2.2.2.2.2.2.2.2.2.2.2.2.2.2.2.1
  have hM_written : 0 ≤ m_written M ∧ m_written M ≤ 60 := hM.2.2.2.2.2.2.2.2.2.2.2.2.2.2.2.2.2.2.2.2.2.2.2.1
  have hM_look : 0 ≤ m_look M ∧ m_look M ≤ 120 := hM.2.2.2.2.2.2.2.2.2.2.2.2.2.2.2.2.2.2.2.2.2.2.2.2
  have hN_0 := hN.1
  have hN_1 := hN.2.1
  have hN_2 := hN.2.2.1
  have hN_3 := hN.2.2.2.1
  have hn4 : 0 ≤ m_now M 4 ∧ m_now M 4 < m_now M 1 := ⟨(nEnd_q (m_now M) 4 hN (by omega)).1, (hWf.2.1 0 (by omega) (by have := hWf.1; omega)).1⟩
  refine r_aload_n C dX5_origins_0 hl 0 rfl ?_
  refine r_iload_n C dX5_origins_1 hl 1 rfl ?_
  refine r_callR (rest := []) (r := .int (iI (bI (0 ≤ n ∧ n ≤ (m_now M) 1 - 1)))) C hl.1 (c_X5_isNode l g o ad (m_refused M) (m_now M) (m_kept M) (m_states M) (m_place M) (m_startFact M) (m_node M) (m_fact M) (m_ahead M) (m_inside M) (m_entries M) (m_caller M) (m_following M) (m_firstCaller M) (m_lastCaller M) (m_callers M) (m_known M) (m_loose M) (m_stack M) (m_high M) (m_pairs M) (m_told M) (m_text M) (m_typed M) (m_orders M) (m_written M) (m_look M) n (by assumption) (show rg n by omega)) v_X5_101 rfl hW.1 0 rfl rfl rfl (by decide) (by decide) (Nat.le_of_ble_eq_true rfl) dX5_origins_2 rfl ?_
  refine r_ifb_eq C 18 dX5_origins_5 (by decide) (fun hc1 => ?_) (fun hc1 => ?_)
  · skip
    refine r_aload_n C dX5_origins_18 hl 0 rfl ?_
    refine r_callW (rest := []) (r := some (.int (iI (-2)))) (wr := []) (ws2 := mF g o ad (up ((m_refused M)) 0 ((m_refused M) 0 + 1)) (m_now M) (m_kept M) (m_states M) (m_place M) (m_startFact M) (m_node M) (m_fact M) (m_ahead M) (m_inside M) (m_entries M) (m_caller M) (m_following M) (m_firstCaller M) (m_lastCaller M) (m_callers M) (m_known M) (m_loose M) (m_stack M) (m_high M) (m_pairs M) (m_told M) (m_text M) (m_typed M) (m_orders M) (m_written M) (m_look M)) (st1 := [.int (iI (-2))]) C hl.1 hW hA (c_X5_bad l g o ad (m_refused M) (m_now M) (m_kept M) (m_states M) (m_place M) (m_startFact M) (m_node M) (m_fact M) (m_ahead M) (m_inside M) (m_entries M) (m_caller M) (m_following M) (m_firstCaller M) (m_lastCaller M) (m_callers M) (m_known M) (m_loose M) (m_stack M) (m_high M) (m_pairs M) (m_told M) (m_text M) (m_typed M) (m_orders M) (m_written M) (m_look M)) v_X5_68 rfl [0, 1, 2, 3, 4, 5, 6, 7, 8, 9, 10, 11, 12, 13, 14, 15, 16, 17, 18] [] [0, 1, 2, 3, 4, 5, 6, 7, 8, 9, 10, 11, 12, 13, 14, 15, 16, 17, 18] rfl rfl (by decide) (by decide) rfl rfl 0 rfl rfl rfl (by decide) (by decide) (Nat.le_of_ble_eq_true rfl) dX5_origins_19 rfl rfl (fun H locs hW => ?_)
    have hE : mOrigins n f M = (-2, (up ((m_refused M)) 0 ((m_refused M) 0 + 1), m_now M, m_kept M, m_states M, m_place M, m_startFact M, m_node M, m_fact M, m_ahead M, m_inside M, m_entries M, m_caller M, m_following M, m_firstCaller M, m_lastCaller M, m_callers M, m_known M, m_loose M, m_stack M, m_high M, m_pairs M, m_told M, m_text M, m_typed M, m_orders M, m_written M, m_look M)) := if_neg (by omega)
    exact MW_iret C hAe hrt hlk hW dX5_origins_22 (iw (by rw [hE])) (by rw [hE])
  · skip
    refine r_iload_n C dX5_origins_8 hl 2 rfl ?_
    refine r_iconst (z := 0) C dX5_origins_9 rfl ?_
    refine r_bipush (z := 7) C dX5_origins_10 rfl ?_
    refine r_callRS (rest := []) (r := .int (iI (bI (0 ≤ f ∧ f ≤ 7)))) C hl.1 (c_X5_in l g  f 0 7 (show rg f by omega) (show rg 0 by omega) (show rg 7 by omega)) v_X5_89 rfl (fun k q h => by simp at h) (by decide) (by decide) (Nat.le_of_ble_eq_true rfl) dX5_origins_12 rfl ?_
    refine r_ifb_ne C 23 dX5_origins_15 (by decide) (fun hc2 => ?_) (fun hc2 => ?_)
    · skip
      refine r_iconst (z := 0) C dX5_origins_23 rfl ?_
      refine r_istore_n C [(3, .int (iI (0))), (0, .ref (o)), (1, .int (iI (n))), (2, .int (iI (f)))] dX5_origins_24 hl (by decide) rfl (fun ls hl => ?_)
      refine r_iconst (z := 0) C dX5_origins_25 rfl ?_
      refine r_istore C [(4, .int (iI (0))), (3, .int (iI (0))), (0, .ref (o)), (1, .int (iI (n))), (2, .int (iI (f)))] dX5_origins_26 hl (by decide) rfl (fun ls hl => ?_)
      have hloop28 : ∀ (k28 : Nat) (a r : Int) (X : Md) (hkk : a + k28 = 8) (ha : 0 ≤ a) (hr9 : 0 ≤ r ∧ r < 256) (hXo : mOk X) (hXn : m_now X = m_now M) (hq : mOrAll n f M = it (mOrF (m_now M) n f) k28 a (r, X)) (H : Heap) (locs : List Loc) (ls : Array Slot), HW g A zs.heap (mF g o ad (m_refused X) (m_now X) (m_kept X) (m_states X) (m_place X) (m_startFact X) (m_node X) (m_fact X) (m_ahead X) (m_inside X) (m_entries X) (m_caller X) (m_following X) (m_firstCaller X) (m_lastCaller X) (m_callers X) (m_known X) (m_loose X) (m_stack X) (m_high X) (m_pairs X) (m_told X) (m_text X) (m_typed X) (m_orders X) (m_written X) (m_look X)) H locs → lv_has ls 5 [(0, .ref (o)), (1, .int (iI (n))), (2, .int (iI (f))), (3, .int (iI (r))), (4, .int (iI (a)))] → W zp l ze (rmm 6 147) zs zm (List.toArray [.ref (o), .int (iI (n)), .int (iI (f))]) zb zt zc H locs 0 0 (MQ zb (QW g (mF g o ad (m_refused M) (m_now M) (m_kept M) (m_states M) (m_place M) (m_startFact M) (m_node M) (m_fact M) (m_ahead M) (m_inside M) (m_entries M) (m_caller M) (m_following M) (m_firstCaller M) (m_lastCaller M) (m_callers M) (m_known M) (m_loose M) (m_stack M) (m_high M) (m_pairs M) (m_told M) (m_text M) (m_typed M) (m_orders M) (m_written M) (m_look M)) (mF g o ad (m_refused ((mOrigins n f M).2)) (m_now ((mOrigins n f M).2)) (m_kept ((mOrigins n f M).2)) (m_states ((mOrigins n f M).2)) (m_place ((mOrigins n f M).2)) (m_startFact ((mOrigins n f M).2)) (m_node ((mOrigins n f M).2)) (m_fact ((mOrigins n f M).2)) (m_ahead ((mOrigins n f M).2)) (m_inside ((mOrigins n f M).2)) (m_entries ((mOrigins n f M).2)) (m_caller ((mOrigins n f M).2)) (m_following ((mOrigins n f M).2)) (m_firstCaller ((mOrigins n f M).2)) (m_lastCaller ((mOrigins n f M).2)) (m_callers ((mOrigins n f M).2)) (m_known ((mOrigins n f M).2)) (m_loose ((mOrigins n f M).2)) (m_stack ((mOrigins n f M).2)) (m_high ((mOrigins n f M).2)) (m_pairs ((mOrigins n f M).2)) (m_told ((mOrigins n f M).2)) (m_text ((mOrigins n f M).2)) (m_typed ((mOrigins n f M).2)) (m_orders ((mOrigins n f M).2)) (m_written ((mOrigins n f M).2)) (m_look ((mOrigins n f M).2))) zs.heap.size (some (.int (iI ((mOrigins n f M).1))))) (List.toArray [.ref (o), .int (iI (n)), .int (iI (f))]) zs 0 0 A) (F0 zm 28 ls []) := by
        intro k28
        induction k28 with
        | zero =>
          intro a r X hkk ha hr9 hXo hXn hq H locs ls hW hl
          obtain ⟨hXo_refused, hXo_states, hXo_place, hXo_startFact, hXo_node, hXo_fact, hXo_ahead, hXo_inside, hXo_entries, hXo_caller, hXo_following, hXo_firstCaller, hXo_lastCaller, hXo_callers, hXo_known, hXo_loose, hXo_stack, hXo_high, hXo_pairs, hXo_told, hXo_text, hXo_typed, hXo_orders, hXo_written, hXo_look⟩ := id hXo
          have hXN : nOk (m_now X) := by rw [hXn]; exact hN
          refine r_iload C dX5_origins_28 hl 4 rfl ?_
          refine r_bipush (z := 8) C dX5_origins_30 rfl ?_
          refine r_icmp_ge C 89 dX5_origins_32 (by decide) (by omega) (by omega) (fun hc3 => ?_) (fun hc3 => ?_)
          · skip
            refine r_aload_n C dX5_origins_89 hl 0 rfl ?_
            refine r_iconst (z := 0) C dX5_origins_90 rfl ?_
            refine r_put C f_X5_77 fp_5_16 hW (mF g o ad (m_refused X) (m_now X) (m_kept X) (m_states X) (m_place X) (m_startFact X) (m_node X) (m_fact X) (m_ahead X) (m_inside X) (m_entries X) (m_caller X) (m_following X) (m_firstCaller X) (m_lastCaller X) (m_callers X) 0 (m_loose X) (m_stack X) (m_high X) (m_pairs X) (m_told X) (m_text X) (m_typed X) (m_orders X) (m_written X) (m_look X)) 0 rfl (by decide) (by decide) (Nat.le_of_ble_eq_true rfl) rfl dX5_origins_91 (fun H locs hW => ?_)
            refine r_iload_n C dX5_origins_94 hl 3 rfl ?_
            have hE : mOrigins n f M = (r, (m_refused X, m_now X, m_kept X, m_states X, m_place X, m_startFact X, m_node X, m_fact X, m_ahead X, m_inside X, m_entries X, m_caller X, m_following X, m_firstCaller X, m_lastCaller X, m_callers X, 0, m_loose X, m_stack X, m_high X, m_pairs X, m_told X, m_text X, m_typed X, m_orders X, m_written X, m_look X)) := by
              have hq9 : mOrAll n f M = (r, X) := hq
              unfold mOrigins
              rw [hq9]
              exact if_pos (by omega)
            exact MW_iret C hAe hrt hlk hW dX5_origins_95 (iw (by rw [hE])) (by rw [hE])
          · exact absurd hc3 (by omega)
        | succ k28 ih28 =>
          intro a r X hkk ha hr9 hXo hXn hq H locs ls hW hl
          obtain ⟨hXo_refused, hXo_states, hXo_place, hXo_startFact, hXo_node, hXo_fact, hXo_ahead, hXo_inside, hXo_entries, hXo_caller, hXo_following, hXo_firstCaller, hXo_lastCaller, hXo_callers, hXo_known, hXo_loose, hXo_stack, hXo_high, hXo_pairs, hXo_told, hXo_text, hXo_typed, hXo_orders, hXo_written, hXo_look⟩ := id hXo
          have hXN : nOk (m_now X) := by rw [hXn]; exact hN
          refine r_iload C dX5_origins_28 hl 4 rfl ?_
          refine r_bipush (z := 8) C dX5_origins_30 rfl ?_
          refine r_icmp_ge C 89 dX5_origins_32 (by decide) (by omega) (by omega) (fun hc4 => ?_) (fun hc4 => ?_)
          · exact absurd hc4 (by omega)
          · skip
            refine opq (mClr X) (fun Y hY => ?_)
            refine r_aload_n C dX5_origins_35 hl 0 rfl ?_
            refine r_callW (rest := []) (r := none) (wr := []) (ws2 := mF g o ad (m_refused Y) (m_now Y) (m_kept Y) (m_states Y) (m_place Y) (m_startFact Y) (m_node Y) (m_fact Y) (m_ahead Y) (m_inside Y) (m_entries Y) (m_caller Y) (m_following Y) (m_firstCaller Y) (m_lastCaller Y) (m_callers Y) (m_known Y) (m_loose Y) (m_stack Y) (m_high Y) (m_pairs Y) (m_told Y) (m_text Y) (m_typed Y) (m_orders Y) (m_written Y) (m_look Y)) (st1 := []) C hl.1 hW hA (c_X5_clearK l g o ad X Y hY) v_X5_182 rfl [0, 1, 2, 3, 4, 5, 6, 7, 8, 9, 10, 11, 12, 13, 14, 15, 16, 17, 18] [] [0, 1, 2, 3, 4, 5, 6, 7, 8, 9, 10, 11, 12, 13, 14, 15, 16, 17, 18] rfl rfl (by decide) (by decide) rfl rfl 0 rfl rfl rfl (by decide) (by decide) (Nat.le_of_ble_eq_true rfl) dX5_origins_36 rfl rfl (fun H locs hW => ?_)
            have hYo : mOk Y := by rw [← hY]; exact mClr_ok hXo
            have hYn : m_now Y = m_now M := by rw [← hY]; exact hXn
            have hYN : nOk (m_now Y) := by rw [hYn]; exact hN
            have hYE : m_entries Y = 0 := by rw [← hY]; rfl
            have hYo_refused : ∀ j : Int, 0 ≤ j → j < 3 → 0 ≤ m_refused Y j ∧ m_refused Y j ≤ 1000000 := hYo.1
            have hYo_states : 0 ≤ m_states Y ∧ m_states Y ≤ 5 := hYo.2.1
            have hYo_place : ∀ j : Int, 0 ≤ j → j < 1536 → 0 ≤ m_place Y j ∧ m_place Y j ≤ 1536 := hYo.2.2.1
            have hYo_startFact : ∀ j : Int, 0 ≤ j → j < 1536 → 0 ≤ m_startFact Y j ∧ m_startFact Y j ≤ 7 := hYo.2.2.2.1
            have hYo_node : ∀ j : Int, 0 ≤ j → j < 1536 → 0 ≤ m_node Y j ∧ m_node Y j ≤ 23 := hYo.2.2.2.2.1
            have hYo_fact : ∀ j : Int, 0 ≤ j → j < 1536 → 0 ≤ m_fact Y j ∧ m_fact Y j ≤ 7 := hYo.2.2.2.2.2.1
            have hYo_ahead : ∀ j : Int, 0 ≤ j → j < 1536 → -1 ≤ m_ahead Y j ∧ m_ahead Y j ≤ 1535 := hYo.2.2.2.2.2.2.1
            have hYo_inside : ∀ j : Int, 0 ≤ j → j < 1536 → -1 ≤ m_inside Y j ∧ m_inside Y j ≤ 1535 := hYo.2.2.2.2.2.2.2.1
            have hYo_entries : 0 ≤ m_entries Y ∧ m_entries Y ≤ 1536 := hYo.2.2.2.2.2.2.2.2.1
            have hYo_caller : ∀ j : Int, 0 ≤ j → j < 16384 → 0 ≤ m_caller Y j ∧ m_caller Y j ≤ 49151 := hYo.2.2.2.2.2.2.2.2.2.1
            have hYo_following : ∀ j : Int, 0 ≤ j → j < 16384 → -1 ≤ m_following Y j ∧ m_following Y j ≤ 16383 := hYo.2.2.2.2.2.2.2.2.2.2.1
            have hYo_firstCaller : ∀ j : Int, 0 ≤ j → j < 40 → -1 ≤ m_firstCaller Y j ∧ m_firstCaller Y j ≤ 16383 := hYo.2.2.2.2.2.2.2.2.2.2.2.1
            have hYo_lastCaller : ∀ j : Int, 0 ≤ j → j < 40 → -1 ≤ m_lastCaller Y j ∧ m_lastCaller Y j ≤ 16383 := hYo.2.2.2.2.2.2.2.2.2.2.2.2.1
            have hYo_callers : 0 ≤ m_callers Y ∧ m_callers Y ≤ 16384 := hYo.2.2.2.2.2.2.2.2.2.2.2.2.2.1
            have hYo_known : 0 ≤ m_known Y ∧ m_known Y ≤ 1 := hYo.2.2.2.2.2.2.2.2.2.2.2.2.2.2.1
            have hYo_loose : ∀ j : Int, 0 ≤ j → j < 24 → 0 ≤ m_loose Y j ∧ m_loose Y j ≤ 255 := hYo.2.2.2.2.2.2.2.2.2.2.2.2.2.2.2.1
            have hYo_stack : ∀ j : Int, 0 ≤ j → j < 8000 → 0 ≤ m_stack Y j ∧ m_stack Y j ≤ 6143 := hYo.2.2.2.2.2.2.2.2.2.2.2.2.2.2.2.2.1
            have hYo_high : 0 ≤ m_high Y ∧ m_high Y ≤ 8000 := hYo.2.2.2.2.2.2.2.2.2.2.2.2.2.2.2.2.2.1
            have hYo_pairs : ∀ j : Int, 0 ≤ j → j < 1000 → 0 ≤ m_pairs Y j ∧ m_pairs Y j ≤ 239 := hYo.2.2.2.2.2.2.2.2.2.2.2.2.2.2.2.2.2.2.1
            have hYo_told : 0 ≤ m_told Y ∧ m_told Y ≤ 1000 := hYo.2.2.2.2.2.2.2.2.2.2.2.2.2.2.2.2.2.2.2.1
            have hYo_text : ∀ j : Int, 0 ≤ j → j < 120 → 0 ≤ m_text Y j ∧ m_text Y j ≤ 127 := hYo.2.2.2.2.2.2.2.2.2.2.2.2.2.2.2.2.2.2.2.2.1
            have hYo_typed : 0 ≤ m_typed Y ∧ m_typed Y ≤ 120 := hYo.2.2.2.2.2.2.2.2.2.2.2.2.2.2.2.2.2.2.2.2.2.1
            have hYo_orders : ∀ j : Int, 0 ≤ j → j < 300 → 0 ≤ m_orders Y j ∧ m_orders Y j ≤ 999 := hYo.2.2.2.2.2.2.2.2.2.2.2.2.2.2.2.2.2.2.2.2.2.2.1
            have hYo_written : 0 ≤ m_written Y ∧ m_written Y ≤ 60 := hYo.2.2.2.2.2.2.2.2.2.2.2.2.2.2.2.2.2.2.2.2.2.2.2.1
            have hYo_look : 0 ≤ m_look Y ∧ m_look Y ≤ 120 := hYo.2.2.2.2.2.2.2.2.2.2.2.2.2.2.2.2.2.2.2.2.2.2.2.2
            refine opq (mComes a (m_now Y 4) a (-1) (-1) Y) (fun Z hZ => ?_)
            refine r_aload_n C dX5_origins_39 hl 0 rfl ?_
            refine r_iload C dX5_origins_40 hl 4 rfl ?_
            refine r_aload_n C dX5_origins_42 hl 0 rfl ?_
            refine r_get (v := .ref (ad 1)) C f_X5_13 hW.1 0 rfl rfl dX5_origins_43 ?_
            refine r_iconst (z := 4) C dX5_origins_46 rfl ?_
            refine r_iald (f := m_now Y) C hW.1 2 rfl (Nat.le_of_ble_eq_true rfl) (by omega) dX5_origins_47 ?_
            have hr5 := nEnd_q (m_now Y) 4 hYN (by omega)
            refine r_iload C dX5_origins_48 hl 4 rfl ?_
            refine r_iconst (z := -1) C dX5_origins_50 rfl ?_
            refine r_iconst (z := -1) C dX5_origins_51 rfl ?_
            refine r_callW (rest := []) (r := none) (wr := []) (ws2 := mF g o ad (m_refused Z) (m_now Z) (m_kept Z) (m_states Z) (m_place Z) (m_startFact Z) (m_node Z) (m_fact Z) (m_ahead Z) (m_inside Z) (m_entries Z) (m_caller Z) (m_following Z) (m_firstCaller Z) (m_lastCaller Z) (m_callers Z) (m_known Z) (m_loose Z) (m_stack Z) (m_high Z) (m_pairs Z) (m_told Z) (m_text Z) (m_typed Z) (m_orders Z) (m_written Z) (m_look Z)) (st1 := []) C hl.1 hW hA (c_X5_comesK l g o ad Y a (m_now Y 4) a (-1) (-1) Z hYo (show 0 ≤ a ∧ a < 8 by omega) (show 0 ≤ (m_now Y 4) ∧ (m_now Y 4) < 24 by omega) (show 0 ≤ a ∧ a < 8 by omega) (fun _ => show m_entries Y < 1536 by omega) hZ) v_X5_164 rfl [0, 1, 2, 3, 4, 5, 6, 7, 8, 9, 10, 11, 12, 13, 14, 15, 16, 17, 18] [] [0, 1, 2, 3, 4, 5, 6, 7, 8, 9, 10, 11, 12, 13, 14, 15, 16, 17, 18] rfl rfl (by decide) (by decide) rfl rfl 0 rfl rfl rfl (by decide) (by decide) (Nat.le_of_ble_eq_true rfl) dX5_origins_52 rfl rfl (fun H locs hW => ?_)
            have hY4 : m_now Y 4 = m_now M 4 := by rw [hYn]
            have hZ2 : mComes a (m_now M 4) a (-1) (-1) (mClr X) = Z := by rw [hY, ← hY4]; exact hZ
            have hG := mOrg_w (N := m_now M) (n := m_now M 4) (a := a) hN hXo hXn hn4 (by omega)
            rw [hZ2] at hG
            have hZn : m_now Z = m_now M := hG.1.1.2.2.1
            have hZo : mOk Z := hG.1.1.2.1
            have hZN : nOk (m_now Z) := by rw [hZn]; exact hN
            have hZW : nWf (m_now Z) := by rw [hZn]; exact hWf
            have hZV : wV (m_now Z) 0 Z := by rw [hZn]; exact hG.1
            refine opq (mFl 1536 0 Z) (fun K hK => ?_)
            refine r_aload_n C dX5_origins_55 hl 0 rfl ?_
            refine r_callW (rest := []) (r := none) (wr := []) (ws2 := mF g o ad (m_refused K) (m_now K) (m_kept K) (m_states K) (m_place K) (m_startFact K) (m_node K) (m_fact K) (m_ahead K) (m_inside K) (m_entries K) (m_caller K) (m_following K) (m_firstCaller K) (m_lastCaller K) (m_callers K) (m_known K) (m_loose K) (m_stack K) (m_high K) (m_pairs K) (m_told K) (m_text K) (m_typed K) (m_orders K) (m_written K) (m_look K)) (st1 := []) C hl.1 hW hA (c_X5_fillsK l g o ad Z K (by assumption) (by assumption) (by assumption) (by assumption) hK) v_X5_185 rfl [0, 1, 2, 3, 4, 5, 6, 7, 8, 9, 10, 11, 12, 13, 14, 15, 16, 17, 18] [] [0, 1, 2, 3, 4, 5, 6, 7, 8, 9, 10, 11, 12, 13, 14, 15, 16, 17, 18] rfl rfl (by decide) (by decide) rfl rfl 0 rfl rfl rfl (by decide) (by decide) (Nat.le_of_ble_eq_true rfl) dX5_origins_56 rfl rfl (fun H locs hW => ?_)
            have hK2 : mOrg (m_now M 4) a X = K := by rw [← hK, ← hZ2]; rfl
            have hOv := mOrg_v (N := m_now M) (n := m_now M 4) (a := a) hN hWf hXo hXn hn4 (by omega)
            rw [hK2] at hOv
            have hKo : mOk K := hOv.1.2.1
            have hKn : m_now K = m_now M := hOv.1.2.2.1
            have hKo_refused : ∀ j : Int, 0 ≤ j → j < 3 → 0 ≤ m_refused K j ∧ m_refused K j ≤ 1000000 := hKo.1
            have hKo_states : 0 ≤ m_states K ∧ m_states K ≤ 5 := hKo.2.1
            have hKo_place : ∀ j : Int, 0 ≤ j → j < 1536 → 0 ≤ m_place K j ∧ m_place K j ≤ 1536 := hKo.2.2.1
            have hKo_startFact : ∀ j : Int, 0 ≤ j → j < 1536 → 0 ≤ m_startFact K j ∧ m_startFact K j ≤ 7 := hKo.2.2.2.1
            have hKo_node : ∀ j : Int, 0 ≤ j → j < 1536 → 0 ≤ m_node K j ∧ m_node K j ≤ 23 := hKo.2.2.2.2.1
            have hKo_fact : ∀ j : Int, 0 ≤ j → j < 1536 → 0 ≤ m_fact K j ∧ m_fact K j ≤ 7 := hKo.2.2.2.2.2.1
            have hKo_ahead : ∀ j : Int, 0 ≤ j → j < 1536 → -1 ≤ m_ahead K j ∧ m_ahead K j ≤ 1535 := hKo.2.2.2.2.2.2.1
            have hKo_inside : ∀ j : Int, 0 ≤ j → j < 1536 → -1 ≤ m_inside K j ∧ m_inside K j ≤ 1535 := hKo.2.2.2.2.2.2.2.1
            have hKo_entries : 0 ≤ m_entries K ∧ m_entries K ≤ 1536 := hKo.2.2.2.2.2.2.2.2.1
            have hKo_caller : ∀ j : Int, 0 ≤ j → j < 16384 → 0 ≤ m_caller K j ∧ m_caller K j ≤ 49151 := hKo.2.2.2.2.2.2.2.2.2.1
            have hKo_following : ∀ j : Int, 0 ≤ j → j < 16384 → -1 ≤ m_following K j ∧ m_following K j ≤ 16383 := hKo.2.2.2.2.2.2.2.2.2.2.1
            have hKo_firstCaller : ∀ j : Int, 0 ≤ j → j < 40 → -1 ≤ m_firstCaller K j ∧ m_firstCaller K j ≤ 16383 := hKo.2.2.2.2.2.2.2.2.2.2.2.1
            have hKo_lastCaller : ∀ j : Int, 0 ≤ j → j < 40 → -1 ≤ m_lastCaller K j ∧ m_lastCaller K j ≤ 16383 := hKo.2.2.2.2.2.2.2.2.2.2.2.2.1
            have hKo_callers : 0 ≤ m_callers K ∧ m_callers K ≤ 16384 := hKo.2.2.2.2.2.2.2.2.2.2.2.2.2.1
            have hKo_known : 0 ≤ m_known K ∧ m_known K ≤ 1 := hKo.2.2.2.2.2.2.2.2.2.2.2.2.2.2.1
            have hKo_loose : ∀ j : Int, 0 ≤ j → j < 24 → 0 ≤ m_loose K j ∧ m_loose K j ≤ 255 := hKo.2.2.2.2.2.2.2.2.2.2.2.2.2.2.2.1
            have hKo_stack : ∀ j : Int, 0 ≤ j → j < 8000 → 0 ≤ m_stack K j ∧ m_stack K j ≤ 6143 := hKo.2.2.2.2.2.2.2.2.2.2.2.2.2.2.2.2.1
            have hKo_high : 0 ≤ m_high K ∧ m_high K ≤ 8000 := hKo.2.2.2.2.2.2.2.2.2.2.2.2.2.2.2.2.2.1
            have hKo_pairs : ∀ j : Int, 0 ≤ j → j < 1000 → 0 ≤ m_pairs K j ∧ m_pairs K j ≤ 239 := hKo.2.2.2.2.2.2.2.2.2.2.2.2.2.2.2.2.2.2.1
            have hKo_told : 0 ≤ m_told K ∧ m_told K ≤ 1000 := hKo.2.2.2.2.2.2.2.2.2.2.2.2.2.2.2.2.2.2.2.1
            have hKo_text : ∀ j : Int, 0 ≤ j → j < 120 → 0 ≤ m_text K j ∧ m_text K j ≤ 127 := hKo.2.2.2.2.2.2.2.2.2.2.2.2.2.2.2.2.2.2.2.2.1
            have hKo_typed : 0 ≤ m_typed K ∧ m_typed K ≤ 120 := hKo.2.2.2.2.2.2.2.2.2.2.2.2.2.2.2.2.2.2.2.2.2.1
            have hKo_orders : ∀ j : Int, 0 ≤ j → j < 300 → 0 ≤ m_orders K j ∧ m_orders K j ≤ 999 := hKo.2.2.2.2.2.2.2.2.2.2.2.2.2.2.2.2.2.2.2.2.2.2.1
            have hKo_written : 0 ≤ m_written K ∧ m_written K ≤ 60 := hKo.2.2.2.2.2.2.2.2.2.2.2.2.2.2.2.2.2.2.2.2.2.2.2.1
            have hKo_look : 0 ≤ m_look K ∧ m_look K ≤ 120 := hKo.2.2.2.2.2.2.2.2.2.2.2.2.2.2.2.2.2.2.2.2.2.2.2.2
            refine r_iload_n C dX5_origins_59 hl 3 rfl ?_
            refine r_aload_n C dX5_origins_60 hl 0 rfl ?_
            refine r_iload_n C dX5_origins_61 hl 1 rfl ?_
            refine r_callR (rest := [.int (iI (r))]) (r := .int (iI (hHeld ((m_place K)) n))) C hl.1 (c_X5_held l g o ad (m_refused K) (m_now K) (m_kept K) (m_states K) (m_place K) (m_startFact K) (m_node K) (m_fact K) (m_ahead K) (m_inside K) (m_entries K) (m_caller K) (m_following K) (m_firstCaller K) (m_lastCaller K) (m_callers K) (m_known K) (m_loose K) (m_stack K) (m_high K) (m_pairs K) (m_told K) (m_text K) (m_typed K) (m_orders K) (m_written K) (m_look K) n (by assumption) (show 0 ≤ n ∧ n < 24 by omega)) v_X5_191 rfl hW.1 0 rfl rfl rfl (by decide) (by decide) (Nat.le_of_ble_eq_true rfl) dX5_origins_62 rfl ?_
            have hh9 := hHeld_q (m_place K) n
            refine r_iload_n C dX5_origins_65 hl 2 rfl ?_
            refine r_ishr C (by omega) (by omega) (by omega) (by omega) dX5_origins_66 ?_
            have hb6 : 0 ≤ (hHeld ((m_place K)) n) / p2 f := Int.ediv_nonneg (by omega) (Int.le_of_lt (p2_0 _))
            refine r_iconst (z := 1) C dX5_origins_67 rfl ?_
            refine r_iand C (by omega) (by omega) dX5_origins_68 ?_
            have hb7 := bA_0 ((hHeld ((m_place K)) n) / p2 f) 1
            have hb9 := Nat.and_le_right (n := ((hHeld ((m_place K)) n) / p2 f).toNat) (m := (1 : Int).toNat); have hb8 : bA ((hHeld ((m_place K)) n) / p2 f) 1 ≤ 1 := by unfold bA; omega
            refine r_iconst (z := 1) C dX5_origins_69 rfl ?_
            refine r_icmp_ne C 80 dX5_origins_70 (by decide) (by omega) (by omega) (fun hc10 => ?_) (fun hc10 => ?_)
            · skip
              refine r_iconst (z := 0) C dX5_origins_80 rfl ?_
              refine r_ior C (by omega) (by omega) dX5_origins_81 ?_
              have hb11 := bO_0 r 0
              have hb12 : bO r 0 < 256 := bO_8 (by omega) (by omega)
              refine r_istore_n C [(3, .int (iI (bO r 0))), (0, .ref (o)), (1, .int (iI (n))), (2, .int (iI (f))), (4, .int (iI (a)))] dX5_origins_82 hl (by decide) rfl (fun ls hl => ?_)
              refine r_iinc (v := a + 1) C [(4, .int (iI (a + 1))), (3, .int (iI (bO r 0))), (0, .ref (o)), (1, .int (iI (n))), (2, .int (iI (f)))] dX5_origins_83 hl 4 rfl (by decide) (by omega) rfl (fun ls hl => ?_)
              refine r_goto C 28 dX5_origins_86 (by decide) ?_
              have hE : mOrF (m_now M) n f a (r, X) = (bO r 0, K) := by
                unfold mOrF
                show (bO r (if bA (hHeld (m_place (mOrg (m_now M 4) a X)) n / p2 f) 1 = 1 then p2 a else 0), mOrg (m_now M 4) a X) = _
                rw [hK2]
                exact Prod.ext (congrArg (bO r) (if_neg (by omega))) rfl
              exact ih28 (a + 1) (bO r 0) K (by omega) (by omega) (by omega) hKo hKn (by rw [hq, it_s, hE]) _ _ ls hW (lv_sub hl [2, 3, 4, 1, 0] rfl)
            · skip
              refine r_iconst (z := 1) C dX5_origins_73 rfl ?_
              refine r_iload C dX5_origins_74 hl 4 rfl ?_
              refine r_ishl1 C (by omega) (by omega) dX5_origins_76 ?_
              have hb13 := p2_0 a
              have hb14 : p2 a < 256 := p2_8 (by omega)
              refine r_goto C 81 dX5_origins_77 (by decide) ?_
              refine r_ior C (by omega) (by omega) dX5_origins_81 ?_
              have hb15 := bO_0 r (p2 a)
              have hb16 : bO r (p2 a) < 256 := bO_8 (by omega) (by omega)
              refine r_istore_n C [(3, .int (iI (bO r (p2 a)))), (0, .ref (o)), (1, .int (iI (n))), (2, .int (iI (f))), (4, .int (iI (a)))] dX5_origins_82 hl (by decide) rfl (fun ls hl => ?_)
              refine r_iinc (v := a + 1) C [(4, .int (iI (a + 1))), (3, .int (iI (bO r (p2 a)))), (0, .ref (o)), (1, .int (iI (n))), (2, .int (iI (f)))] dX5_origins_83 hl 4 rfl (by decide) (by omega) rfl (fun ls hl => ?_)
              refine r_goto C 28 dX5_origins_86 (by decide) ?_
              have hE : mOrF (m_now M) n f a (r, X) = (bO r (p2 a), K) := by
                unfold mOrF
                show (bO r (if bA (hHeld (m_place (mOrg (m_now M 4) a X)) n / p2 f) 1 = 1 then p2 a else 0), mOrg (m_now M 4) a X) = _
                rw [hK2]
                exact Prod.ext (congrArg (bO r) (if_pos (by omega))) rfl
              exact ih28 (a + 1) (bO r (p2 a)) K (by omega) (by omega) (by omega) hKo hKn (by rw [hq, it_s, hE]) _ _ ls hW (lv_sub hl [2, 3, 4, 1, 0] rfl)
      exact hloop28 8 0 0 M (by omega) (by omega) (by omega) hM rfl rfl _ _ ls hW (lv_sub hl [2, 3, 4, 1, 0] rfl)
    · skip
      refine r_aload_n C dX5_origins_18 hl 0 rfl ?_
      refine r_callW (rest := []) (r := some (.int (iI (-2)))) (wr := []) (ws2 := mF g o ad (up ((m_refused M)) 0 ((m_refused M) 0 + 1)) (m_now M) (m_kept M) (m_states M) (m_place M) (m_startFact M) (m_node M) (m_fact M) (m_ahead M) (m_inside M) (m_entries M) (m_caller M) (m_following M) (m_firstCaller M) (m_lastCaller M) (m_callers M) (m_known M) (m_loose M) (m_stack M) (m_high M) (m_pairs M) (m_told M) (m_text M) (m_typed M) (m_orders M) (m_written M) (m_look M)) (st1 := [.int (iI (-2))]) C hl.1 hW hA (c_X5_bad l g o ad (m_refused M) (m_now M) (m_kept M) (m_states M) (m_place M) (m_startFact M) (m_node M) (m_fact M) (m_ahead M) (m_inside M) (m_entries M) (m_caller M) (m_following M) (m_firstCaller M) (m_lastCaller M) (m_callers M) (m_known M) (m_loose M) (m_stack M) (m_high M) (m_pairs M) (m_told M) (m_text M) (m_typed M) (m_orders M) (m_written M) (m_look M)) v_X5_68 rfl [0, 1, 2, 3, 4, 5, 6, 7, 8, 9, 10, 11, 12, 13, 14, 15, 16, 17, 18] [] [0, 1, 2, 3, 4, 5, 6, 7, 8, 9, 10, 11, 12, 13, 14, 15, 16, 17, 18] rfl rfl (by decide) (by decide) rfl rfl 0 rfl rfl rfl (by decide) (by decide) (Nat.le_of_ble_eq_true rfl) dX5_origins_19 rfl rfl (fun H locs hW => ?_)
      have hE : mOrigins n f M = (-2, (up ((m_refused M)) 0 ((m_refused M) 0 + 1), m_now M, m_kept M, m_states M, m_place M, m_startFact M, m_node M, m_fact M, m_ahead M, m_inside M, m_entries M, m_caller M, m_following M, m_firstCaller M, m_lastCaller M, m_callers M, m_known M, m_loose M, m_stack M, m_high M, m_pairs M, m_told M, m_text M, m_typed M, m_orders M, m_written M, m_look M)) := if_neg (by omega)
      exact MW_iret C hAe hrt hlk hW dX5_origins_22 (iw (by rw [hE])) (by rw [hE])
set_option maxHeartbeats 4000000 in
set_option maxRecDepth 100000 in
theorem c_X5_summary (l : Launch) (g : GG) (o : Nat) (ad : Nat → Nat) (M : Md) (e b : Int) (hM : mOk M) (hN : nOk (m_now M)) (hWf : nWf (m_now M)) (h_e : rg e) (h_b : rg b) : MW l g yX5_summary cX5_summary 8 (some .int) 6 147 [.ref (o), .int (iI (e)), .int (iI (b))] (mF g o ad (m_refused M) (m_now M) (m_kept M) (m_states M) (m_place M) (m_startFact M) (m_node M) (m_fact M) (m_ahead M) (m_inside M) (m_entries M) (m_caller M) (m_following M) (m_firstCaller M) (m_lastCaller M) (m_callers M) (m_known M) (m_loose M) (m_stack M) (m_high M) (m_pairs M) (m_told M) (m_text M) (m_typed M) (m_orders M) (m_written M) (m_look M)) (mF g o ad (m_refused ((mSummary e b M).2)) (m_now ((mSummary e b M).2)) (m_kept ((mSummary e b M).2)) (m_states ((mSummary e b M).2)) (m_place ((mSummary e b M).2)) (m_startFact ((mSummary e b M).2)) (m_node ((mSummary e b M).2)) (m_fact ((mSummary e b M).2)) (m_ahead ((mSummary e b M).2)) (m_inside ((mSummary e b M).2)) (m_entries ((mSummary e b M).2)) (m_caller ((mSummary e b M).2)) (m_following ((mSummary e b M).2)) (m_firstCaller ((mSummary e b M).2)) (m_lastCaller ((mSummary e b M).2)) (m_callers ((mSummary e b M).2)) (m_known ((mSummary e b M).2)) (m_loose ((mSummary e b M).2)) (m_stack ((mSummary e b M).2)) (m_high ((mSummary e b M).2)) (m_pairs ((mSummary e b M).2)) (m_told ((mSummary e b M).2)) (m_text ((mSummary e b M).2)) (m_typed ((mSummary e b M).2)) (m_orders ((mSummary e b M).2)) (m_written ((mSummary e b M).2)) (m_look ((mSummary e b M).2))) (some (.int (iI ((mSummary e b M).1)))) := by
  refine MW_start (by decide) (Nat.le_of_ble_eq_true rfl) ?_
  intro zp ze zs zm zb zt zc A hAe C hrt hlk hW ls hl
  have hA : ∀ q, zs.heap.size ≤ q → A q := fun q h => by rw [hAe]; exact Or.inr h
  have hl : lv_has ls 8 [(0, .ref (o)), (1, .int (iI (e))), (2, .int (iI (b)))] := hl
  have hM_refused : ∀ j : Int, 0 ≤ j → j < 3 → 0 ≤ m_refused M j ∧ m_refused M j ≤ 1000000 := hM.1
  have hM_states : 0 ≤ m_states M ∧ m_states M ≤ 5 := hM.2.1
  have hM_place : ∀ j : Int, 0 ≤ j → j < 1536 → 0 ≤ m_place M j ∧ m_place M j ≤ 1536 := hM.2.2.1
  have hM_startFact : ∀ j : Int, 0 ≤ j → j < 1536 → 0 ≤ m_startFact M j ∧ m_startFact M j ≤ 7 := hM.2.2.2.1
  have hM_node : ∀ j : Int, 0 ≤ j → j < 1536 → 0 ≤ m_node M j ∧ m_node M j ≤ 23 := hM.2.2.2.2.1
  have hM_fact : ∀ j : Int, 0 ≤ j → j < 1536 → 0 ≤ m_fact M j ∧ m_fact M j ≤ 7 := hM.2.2.2.2.2.1
  have hM_ahead : ∀ j : Int, 0 ≤ j → j < 1536 → -1 ≤ m_ahead M j ∧ m_ahead M j ≤ 1535 := hM.2.2.2.2.2.2.1
  have hM_inside : ∀ j : Int, 0 ≤ j → j < 1536 → -1 ≤ m_inside M j ∧ m_inside M j ≤ 1535 := hM.2.2.2.2.2.2.2.1
  have hM_entries : 0 ≤ m_entries M ∧ m_entries M ≤ 1536 := hM.2.2.2.2.2.2.2.2.1
  have hM_caller : ∀ j : Int, 0 ≤ j → j < 16384 → 0 ≤ m_caller M j ∧ m_caller M j ≤ 49151 := hM.2.2.2.2.2.2.2.2.2.1
  have hM_following : ∀ j : Int, 0 ≤ j → j < 16384 → -1 ≤ m_following M j ∧ m_following M j ≤ 16383 := hM.2.2.2.2.2.2.2.2.2.2.1
  have hM_firstCaller : ∀ j : Int, 0 ≤ j → j < 40 → -1 ≤ m_firstCaller M j ∧ m_firstCaller M j ≤ 16383 := hM.2.2.2.2.2.2.2.2.2.2.2.1
  have hM_lastCaller : ∀ j : Int, 0 ≤ j → j < 40 → -1 ≤ m_lastCaller M j ∧ m_lastCaller M j ≤ 16383 := hM.2.2.2.2.2.2.2.2.2.2.2.2.1
  have hM_callers : 0 ≤ m_callers M ∧ m_callers M ≤ 16384 := hM.2.2.2.2.2.2.2.2.2.2.2.2.2.1
  have hM_known : 0 ≤ m_known M ∧ m_known M ≤ 1 := hM.2.2.2.2.2.2.2.2.2.2.2.2.2.2.1
  have hM_loose : ∀ j : Int, 0 ≤ j → j < 24 → 0 ≤ m_loose M j ∧ m_loose M j ≤ 255 := hM.2.2.2.2.2.2.2.2.2.2.2.2.2.2.2.1
  have hM_stack : ∀ j : Int, 0 ≤ j → j < 8000 → 0 ≤ m_stack M j ∧ m_stack M j ≤ 6143 := hM.2.2.2.2.2.2.2.2.2.2.2.2.2.2.2.2.1
  have hM_high : 0 ≤ m_high M ∧ m_high M ≤ 8000 := hM.2.2.2.2.2.2.2.2.2.2.2.2.2.2.2.2.2.1
  have hM_pairs : ∀ j : Int, 0 ≤ j → j < 1000 → 0 ≤ m_pairs M j ∧ m_pairs M j ≤ 239 := hM.2.2.2.2.2.2.2.2.2.2.2.2.2.2.2.2.2.2.1
  have hM_told : 0 ≤ m_told M ∧ m_told M ≤ 1000 := hM.2.2.2.2.2.2.2.2.2.2.2.2.2.2.2.2.2.2.2.1
  have hM_text : ∀ j : Int, 0 ≤ j → j < 120 → 0 ≤ m_text M j ∧ m_text M j ≤ 127 := hM.2.2.2.2.2.2.2.2.2.2.2.2.2.2.2.2.2.2.2.2.1
  have hM_typed : 0 ≤ m_typed M ∧ m_typed M ≤ 120 := hM.2.2.2.2.2.2.2.2.2.2.2.2.2.2.2.2.2.2.2.2.2.1
  have hM_orders : ∀ j : Int, 0 ≤ j → j < 300 → 0 ≤ m_orders M j ∧ m_orders M j ≤ 999 := hM.2.2.2.2.2.2.2.2.2.2.2.2.2.2.2.2.2.2.2.2.2.2.1
  have hM_written : 0 ≤ m_written M ∧ m_written M ≤ 60 := hM.2.2.2.2.2.2.2.2.2.2.2.2.2.2.2.2.2.2.2.2.2.2.2.1
  have hM_look : 0 ≤ m_look M ∧ m_look M ≤ 120 := hM.2.2.2.2.2.2.2.2.2.2.2.2.2.2.2.2.2.2.2.2.2.2.2.2
  have hN_0 := hN.1
  have hN_1 := hN.2.1
  have hN_2 := hN.2.2.1
  have hN_3 := hN.2.2.2.1
  refine r_aload_n C dX5_summary_0 hl 0 rfl ?_
  refine r_iload_n C dX5_summary_1 hl 1 rfl ?_
  refine r_callR (rest := []) (r := .int (iI (bI (0 ≤ e ∧ e ≤ (m_now M) 2 - 1)))) C hl.1 (c_X5_isEdge l g o ad (m_refused M) (m_now M) (m_kept M) (m_states M) (m_place M) (m_startFact M) (m_node M) (m_fact M) (m_ahead M) (m_inside M) (m_entries M) (m_caller M) (m_following M) (m_firstCaller M) (m_lastCaller M) (m_callers M) (m_known M) (m_loose M) (m_stack M) (m_high M) (m_pairs M) (m_told M) (m_text M) (m_typed M) (m_orders M) (m_written M) (m_look M) e (by assumption) (show rg e by omega)) v_X5_115 rfl hW.1 0 rfl rfl rfl (by decide) (by decide) (Nat.le_of_ble_eq_true rfl) dX5_summary_2 rfl ?_
  refine r_ifb_eq C 18 dX5_summary_5 (by decide) (fun hc1 => ?_) (fun hc1 => ?_)
  · skip
    refine r_aload_n C dX5_summary_18 hl 0 rfl ?_
    refine r_callW (rest := []) (r := some (.int (iI (-2)))) (wr := []) (ws2 := mF g o ad (up ((m_refused M)) 0 ((m_refused M) 0 + 1)) (m_now M) (m_kept M) (m_states M) (m_place M) (m_startFact M) (m_node M) (m_fact M) (m_ahead M) (m_inside M) (m_entries M) (m_caller M) (m_following M) (m_firstCaller M) (m_lastCaller M) (m_callers M) (m_known M) (m_loose M) (m_stack M) (m_high M) (m_pairs M) (m_told M) (m_text M) (m_typed M) (m_orders M) (m_written M) (m_look M)) (st1 := [.int (iI (-2))]) C hl.1 hW hA (c_X5_bad l g o ad (m_refused M) (m_now M) (m_kept M) (m_states M) (m_place M) (m_startFact M) (m_node M) (m_fact M) (m_ahead M) (m_inside M) (m_entries M) (m_caller M) (m_following M) (m_firstCaller M) (m_lastCaller M) (m_callers M) (m_known M) (m_loose M) (m_stack M) (m_high M) (m_pairs M) (m_told M) (m_text M) (m_typed M) (m_orders M) (m_written M) (m_look M)) v_X5_68 rfl [0, 1, 2, 3, 4, 5, 6, 7, 8, 9, 10, 11, 12, 13, 14, 15, 16, 17, 18] [] [0, 1, 2, 3, 4, 5, 6, 7, 8, 9, 10, 11, 12, 13, 14, 15, 16, 17, 18] rfl rfl (by decide) (by decide) rfl rfl 0 rfl rfl rfl (by decide) (by decide) (Nat.le_of_ble_eq_true rfl) dX5_summary_19 rfl rfl (fun H locs hW => ?_)
    have hE : mSummary e b M = (-2, (up ((m_refused M)) 0 ((m_refused M) 0 + 1), m_now M, m_kept M, m_states M, m_place M, m_startFact M, m_node M, m_fact M, m_ahead M, m_inside M, m_entries M, m_caller M, m_following M, m_firstCaller M, m_lastCaller M, m_callers M, m_known M, m_loose M, m_stack M, m_high M, m_pairs M, m_told M, m_text M, m_typed M, m_orders M, m_written M, m_look M)) := if_neg (by omega)
    exact MW_iret C hAe hrt hlk hW dX5_summary_22 (iw (by rw [hE])) (by rw [hE])
  · skip
    refine r_iload_n C dX5_summary_8 hl 2 rfl ?_
    refine r_iconst (z := 0) C dX5_summary_9 rfl ?_
    refine r_bipush (z := 7) C dX5_summary_10 rfl ?_
    refine r_callRS (rest := []) (r := .int (iI (bI (0 ≤ b ∧ b ≤ 7)))) C hl.1 (c_X5_in l g  b 0 7 (show rg b by omega) (show rg 0 by omega) (show rg 7 by omega)) v_X5_89 rfl (fun k q h => by simp at h) (by decide) (by decide) (Nat.le_of_ble_eq_true rfl) dX5_summary_12 rfl ?_
    refine r_ifb_ne C 23 dX5_summary_15 (by decide) (fun hc2 => ?_) (fun hc2 => ?_)
    · skip
      refine r_aload_n C dX5_summary_23 hl 0 rfl ?_
      refine r_iload_n C dX5_summary_24 hl 1 rfl ?_
      refine r_iconst (z := 2) C dX5_summary_25 rfl ?_
      refine r_callR (rest := []) (r := .int (iI ((m_now M) (62 + 27 * e + 2)))) C hl.1 (c_X5_edgeOf l g o ad (m_refused M) (m_now M) (m_kept M) (m_states M) (m_place M) (m_startFact M) (m_node M) (m_fact M) (m_ahead M) (m_inside M) (m_entries M) (m_caller M) (m_following M) (m_firstCaller M) (m_lastCaller M) (m_callers M) (m_known M) (m_loose M) (m_stack M) (m_high M) (m_pairs M) (m_told M) (m_text M) (m_typed M) (m_orders M) (m_written M) (m_look M) e 2 (by assumption) (show 0 ≤ e ∧ e < 32 by omega) (show 0 ≤ 2 ∧ 2 < 3 by omega)) v_X5_118 rfl hW.1 0 rfl rfl rfl (by decide) (by decide) (Nat.le_of_ble_eq_true rfl) dX5_summary_26 rfl ?_
      have hq3 := nEdge_q ((m_now M)) e 2 (by assumption) (by omega) (by omega)
      refine r_istore_n C [(3, .int (iI ((m_now M) (62 + 27 * e + 2)))), (0, .ref (o)), (1, .int (iI (e))), (2, .int (iI (b)))] dX5_summary_29 hl (by decide) rfl (fun ls hl => ?_)
      refine r_iload_n C dX5_summary_30 hl 0 rfl ?_
      refine r_iconst (z := -1) C dX5_summary_31 rfl ?_
      refine r_icmp_ne C 40 dX5_summary_32 (by decide) (by omega) (by omega) (fun hc4 => ?_) (fun hc4 => ?_)
      · skip
        have hwe := hWf.2.2.2 e (by omega) (by omega)
        have hqe := nEdge_q (m_now M) e 2 hN (by omega) (by omega)
        have hn4 : 0 ≤ (m_now M (4 + 2 * (m_now M (62 + 27 * e + 2)))) ∧ (m_now M (4 + 2 * (m_now M (62 + 27 * e + 2)))) < m_now M 1 := ⟨(nEnd_q (m_now M) (4 + 2 * (m_now M (62 + 27 * e + 2))) hN (by omega)).1, (hWf.2.1 (m_now M (62 + 27 * e + 2)) (by omega) (by omega)).1⟩
        refine r_aload_n C dX5_summary_40 hl 1 rfl ?_
        refine r_callW (rest := []) (r := none) (wr := []) (ws2 := mF g o ad (m_refused M) (m_now M) (m_kept M) (m_states M) (cPl ((m_place M))) (m_startFact M) (m_node M) (m_fact M) (m_ahead M) (m_inside M) 0 (m_caller M) (m_following M) (cCa ((m_firstCaller M))) (cCa ((m_lastCaller M))) 0 (m_known M) (m_loose M) (m_stack M) (m_high M) (m_pairs M) (m_told M) (m_text M) (m_typed M) (m_orders M) (m_written M) (m_look M)) (st1 := []) C hl.1 hW hA (c_X5_clearTable l g o ad (m_refused M) (m_now M) (m_kept M) (m_states M) (m_place M) (m_startFact M) (m_node M) (m_fact M) (m_ahead M) (m_inside M) (m_entries M) (m_caller M) (m_following M) (m_firstCaller M) (m_lastCaller M) (m_callers M) (m_known M) (m_loose M) (m_stack M) (m_high M) (m_pairs M) (m_told M) (m_text M) (m_typed M) (m_orders M) (m_written M) (m_look M)) v_X5_182 rfl [0, 1, 2, 3, 4, 5, 6, 7, 8, 9, 10, 11, 12, 13, 14, 15, 16, 17, 18] [] [0, 1, 2, 3, 4, 5, 6, 7, 8, 9, 10, 11, 12, 13, 14, 15, 16, 17, 18] rfl rfl (by decide) (by decide) rfl rfl 0 rfl rfl rfl (by decide) (by decide) (Nat.le_of_ble_eq_true rfl) dX5_summary_41 rfl rfl (fun H locs hW => ?_)
        rw [cPl_z, cCa_z, cCa_z] at hW
        refine r_iconst (z := 0) C dX5_summary_44 rfl ?_
        refine r_istore C [(4, .int (iI (0))), (3, .int (iI ((m_now M) (62 + 27 * e + 2)))), (0, .ref (o)), (1, .int (iI (e))), (2, .int (iI (b)))] dX5_summary_45 hl (by decide) rfl (fun ls hl => ?_)
        have hloop47 : ∀ (k47 : Nat) (c : Int) (X : Md) (hkk : c + k47 = 8) (hc : 0 ≤ c) (hXv : vV (m_now M) X) (hXo : mOk X) (hq : mSeeds (m_now M (4 + 2 * (m_now M (62 + 27 * e + 2)))) (m_now M (62 + 27 * e + 3 + 8 * 1 + b)) M = it (mSeedF (m_now M (4 + 2 * (m_now M (62 + 27 * e + 2)))) (m_now M (62 + 27 * e + 3 + 8 * 1 + b))) k47 c X) (H : Heap) (locs : List Loc) (ls : Array Slot), HW g A zs.heap (mF g o ad (m_refused X) (m_now X) (m_kept X) (m_states X) (m_place X) (m_startFact X) (m_node X) (m_fact X) (m_ahead X) (m_inside X) (m_entries X) (m_caller X) (m_following X) (m_firstCaller X) (m_lastCaller X) (m_callers X) (m_known X) (m_loose X) (m_stack X) (m_high X) (m_pairs X) (m_told X) (m_text X) (m_typed X) (m_orders X) (m_written X) (m_look X)) H locs → lv_has ls 8 [(0, .ref (o)), (1, .int (iI (e))), (2, .int (iI (b))), (3, .int (iI ((m_now M) (62 + 27 * e + 2)))), (4, .int (iI (c)))] → W zp l ze (rmm 6 147) zs zm (List.toArray [.ref (o), .int (iI (e)), .int (iI (b))]) zb zt zc H locs 0 0 (MQ zb (QW g (mF g o ad (m_refused M) (m_now M) (m_kept M) (m_states M) (m_place M) (m_startFact M) (m_node M) (m_fact M) (m_ahead M) (m_inside M) (m_entries M) (m_caller M) (m_following M) (m_firstCaller M) (m_lastCaller M) (m_callers M) (m_known M) (m_loose M) (m_stack M) (m_high M) (m_pairs M) (m_told M) (m_text M) (m_typed M) (m_orders M) (m_written M) (m_look M)) (mF g o ad (m_refused ((mSummary e b M).2)) (m_now ((mSummary e b M).2)) (m_kept ((mSummary e b M).2)) (m_states ((mSummary e b M).2)) (m_place ((mSummary e b M).2)) (m_startFact ((mSummary e b M).2)) (m_node ((mSummary e b M).2)) (m_fact ((mSummary e b M).2)) (m_ahead ((mSummary e b M).2)) (m_inside ((mSummary e b M).2)) (m_entries ((mSummary e b M).2)) (m_caller ((mSummary e b M).2)) (m_following ((mSummary e b M).2)) (m_firstCaller ((mSummary e b M).2)) (m_lastCaller ((mSummary e b M).2)) (m_callers ((mSummary e b M).2)) (m_known ((mSummary e b M).2)) (m_loose ((mSummary e b M).2)) (m_stack ((mSummary e b M).2)) (m_high ((mSummary e b M).2)) (m_pairs ((mSummary e b M).2)) (m_told ((mSummary e b M).2)) (m_text ((mSummary e b M).2)) (m_typed ((mSummary e b M).2)) (m_orders ((mSummary e b M).2)) (m_written ((mSummary e b M).2)) (m_look ((mSummary e b M).2))) zs.heap.size (some (.int (iI ((mSummary e b M).1))))) (List.toArray [.ref (o), .int (iI (e)), .int (iI (b))]) zs 0 0 A) (F0 zm 47 ls []) := by
          intro k47
          induction k47 with
          | zero =>
            intro c X hkk hc hXv hXo hq H locs ls hW hl
            obtain ⟨hXo_refused, hXo_states, hXo_place, hXo_startFact, hXo_node, hXo_fact, hXo_ahead, hXo_inside, hXo_entries, hXo_caller, hXo_following, hXo_firstCaller, hXo_lastCaller, hXo_callers, hXo_known, hXo_loose, hXo_stack, hXo_high, hXo_pairs, hXo_told, hXo_text, hXo_typed, hXo_orders, hXo_written, hXo_look⟩ := id hXo
            have hXn : m_now X = m_now M := hXv.2.2.1
            have hXN : nOk (m_now X) := by rw [hXn]; exact hN
            refine r_iload C dX5_summary_47 hl 4 rfl ?_
            refine r_bipush (z := 8) C dX5_summary_49 rfl ?_
            refine r_icmp_ge C 96 dX5_summary_51 (by decide) (by omega) (by omega) (fun hc5 => ?_) (fun hc5 => ?_)
            · skip
              have hq0 : mSeeds (m_now M (4 + 2 * (m_now M (62 + 27 * e + 2)))) (m_now M (62 + 27 * e + 3 + 8 * 1 + b)) M = X := hq
              have hXW : nWf (m_now X) := by rw [hXn]; exact hWf
              have hXV : wV (m_now X) 0 X := by rw [hXn, ← hq0]; exact (wV_seeds hN hM rfl hn4).1
              refine r_aload_n C dX5_summary_96 hl 0 rfl ?_
              refine r_callW (rest := []) (r := none) (wr := []) (ws2 := mF g o ad (m_refused (mFl 1536 0 X)) (m_now (mFl 1536 0 X)) (m_kept (mFl 1536 0 X)) (m_states (mFl 1536 0 X)) (m_place (mFl 1536 0 X)) (m_startFact (mFl 1536 0 X)) (m_node (mFl 1536 0 X)) (m_fact (mFl 1536 0 X)) (m_ahead (mFl 1536 0 X)) (m_inside (mFl 1536 0 X)) (m_entries (mFl 1536 0 X)) (m_caller (mFl 1536 0 X)) (m_following (mFl 1536 0 X)) (m_firstCaller (mFl 1536 0 X)) (m_lastCaller (mFl 1536 0 X)) (m_callers (mFl 1536 0 X)) (m_known (mFl 1536 0 X)) (m_loose (mFl 1536 0 X)) (m_stack (mFl 1536 0 X)) (m_high (mFl 1536 0 X)) (m_pairs (mFl 1536 0 X)) (m_told (mFl 1536 0 X)) (m_text (mFl 1536 0 X)) (m_typed (mFl 1536 0 X)) (m_orders (mFl 1536 0 X)) (m_written (mFl 1536 0 X)) (m_look (mFl 1536 0 X))) (st1 := []) C hl.1 hW hA (c_X5_fills l g o ad X  (by assumption) (by assumption) (by assumption) (by assumption)) v_X5_185 rfl [0, 1, 2, 3, 4, 5, 6, 7, 8, 9, 10, 11, 12, 13, 14, 15, 16, 17, 18] [] [0, 1, 2, 3, 4, 5, 6, 7, 8, 9, 10, 11, 12, 13, 14, 15, 16, 17, 18] rfl rfl (by decide) (by decide) rfl rfl 0 rfl rfl rfl (by decide) (by decide) (Nat.le_of_ble_eq_true rfl) dX5_summary_97 rfl rfl (fun H locs hW => ?_)
              obtain ⟨K, hK⟩ : ∃ K, mSumK e b M = K := ⟨_, rfl⟩
              have hEK : mFl 1536 0 X = K := by rw [← hK]; unfold mSumK mFilled; rw [hq0]
              rw [hEK] at hW
              have hKv := (mFilled_v (M := M) (n := (m_now M (4 + 2 * (m_now M (62 + 27 * e + 2))))) (x := (m_now M (62 + 27 * e + 3 + 8 * 1 + b))) hN hWf hM rfl hn4).1
              rw [show mFilled (m_now M (4 + 2 * (m_now M (62 + 27 * e + 2)))) (m_now M (62 + 27 * e + 3 + 8 * 1 + b)) M = K from hK] at hKv
              have hKo : mOk K := hKv.2.1
              have hKn : m_now K = m_now M := hKv.2.2.1
              have hKN : nOk (m_now K) := by rw [hKn]; exact hN
              have hKo_refused : ∀ j : Int, 0 ≤ j → j < 3 → 0 ≤ m_refused K j ∧ m_refused K j ≤ 1000000 := hKo.1
              have hKo_states : 0 ≤ m_states K ∧ m_states K ≤ 5 := hKo.2.1
              have hKo_place : ∀ j : Int, 0 ≤ j → j < 1536 → 0 ≤ m_place K j ∧ m_place K j ≤ 1536 := hKo.2.2.1
              have hKo_startFact : ∀ j : Int, 0 ≤ j → j < 1536 → 0 ≤ m_startFact K j ∧ m_startFact K j ≤ 7 := hKo.2.2.2.1
              have hKo_node : ∀ j : Int, 0 ≤ j → j < 1536 → 0 ≤ m_node K j ∧ m_node K j ≤ 23 := hKo.2.2.2.2.1
              have hKo_fact : ∀ j : Int, 0 ≤ j → j < 1536 → 0 ≤ m_fact K j ∧ m_fact K j ≤ 7 := hKo.2.2.2.2.2.1
              have hKo_ahead : ∀ j : Int, 0 ≤ j → j < 1536 → -1 ≤ m_ahead K j ∧ m_ahead K j ≤ 1535 := hKo.2.2.2.2.2.2.1
              have hKo_inside : ∀ j : Int, 0 ≤ j → j < 1536 → -1 ≤ m_inside K j ∧ m_inside K j ≤ 1535 := hKo.2.2.2.2.2.2.2.1
              have hKo_entries : 0 ≤ m_entries K ∧ m_entries K ≤ 1536 := hKo.2.2.2.2.2.2.2.2.1
              have hKo_caller : ∀ j : Int, 0 ≤ j → j < 16384 → 0 ≤ m_caller K j ∧ m_caller K j ≤ 49151 := hKo.2.2.2.2.2.2.2.2.2.1
              have hKo_following : ∀ j : Int, 0 ≤ j → j < 16384 → -1 ≤ m_following K j ∧ m_following K j ≤ 16383 := hKo.2.2.2.2.2.2.2.2.2.2.1
              have hKo_firstCaller : ∀ j : Int, 0 ≤ j → j < 40 → -1 ≤ m_firstCaller K j ∧ m_firstCaller K j ≤ 16383 := hKo.2.2.2.2.2.2.2.2.2.2.2.1
              have hKo_lastCaller : ∀ j : Int, 0 ≤ j → j < 40 → -1 ≤ m_lastCaller K j ∧ m_lastCaller K j ≤ 16383 := hKo.2.2.2.2.2.2.2.2.2.2.2.2.1
              have hKo_callers : 0 ≤ m_callers K ∧ m_callers K ≤ 16384 := hKo.2.2.2.2.2.2.2.2.2.2.2.2.2.1
              have hKo_known : 0 ≤ m_known K ∧ m_known K ≤ 1 := hKo.2.2.2.2.2.2.2.2.2.2.2.2.2.2.1
              have hKo_loose : ∀ j : Int, 0 ≤ j → j < 24 → 0 ≤ m_loose K j ∧ m_loose K j ≤ 255 := hKo.2.2.2.2.2.2.2.2.2.2.2.2.2.2.2.1
              have hKo_stack : ∀ j : Int, 0 ≤ j → j < 8000 → 0 ≤ m_stack K j ∧ m_stack K j ≤ 6143 := hKo.2.2.2.2.2.2.2.2.2.2.2.2.2.2.2.2.1
              have hKo_high : 0 ≤ m_high K ∧ m_high K ≤ 8000 := hKo.2.2.2.2.2.2.2.2.2.2.2.2.2.2.2.2.2.1
              have hKo_pairs : ∀ j : Int, 0 ≤ j → j < 1000 → 0 ≤ m_pairs K j ∧ m_pairs K j ≤ 239 := hKo.2.2.2.2.2.2.2.2.2.2.2.2.2.2.2.2.2.2.1
              have hKo_told : 0 ≤ m_told K ∧ m_told K ≤ 1000 := hKo.2.2.2.2.2.2.2.2.2.2.2.2.2.2.2.2.2.2.2.1
              have hKo_text : ∀ j : Int, 0 ≤ j → j < 120 → 0 ≤ m_text K j ∧ m_text K j ≤ 127 := hKo.2.2.2.2.2.2.2.2.2.2.2.2.2.2.2.2.2.2.2.2.1
              have hKo_typed : 0 ≤ m_typed K ∧ m_typed K ≤ 120 := hKo.2.2.2.2.2.2.2.2.2.2.2.2.2.2.2.2.2.2.2.2.2.1
              have hKo_orders : ∀ j : Int, 0 ≤ j → j < 300 → 0 ≤ m_orders K j ∧ m_orders K j ≤ 999 := hKo.2.2.2.2.2.2.2.2.2.2.2.2.2.2.2.2.2.2.2.2.2.2.1
              have hKo_written : 0 ≤ m_written K ∧ m_written K ≤ 60 := hKo.2.2.2.2.2.2.2.2.2.2.2.2.2.2.2.2.2.2.2.2.2.2.2.1
              have hKo_look : 0 ≤ m_look K ∧ m_look K ≤ 120 := hKo.2.2.2.2.2.2.2.2.2.2.2.2.2.2.2.2.2.2.2.2.2.2.2.2
              refine r_iconst (z := 0) C dX5_summary_100 rfl ?_
              refine r_istore C [(4, .int (iI (0))), (0, .ref (o)), (1, .int (iI (e))), (2, .int (iI (b))), (3, .int (iI ((m_now M) (62 + 27 * e + 2))))] dX5_summary_101 hl (by decide) rfl (fun ls hl => ?_)
              refine r_iconst (z := 0) C dX5_summary_103 rfl ?_
              refine r_istore C [(5, .int (iI (0))), (4, .int (iI (0))), (0, .ref (o)), (1, .int (iI (e))), (2, .int (iI (b))), (3, .int (iI ((m_now M) (62 + 27 * e + 2))))] dX5_summary_104 hl (by decide) rfl (fun ls hl => ?_)
              have hloop106 : ∀ (k106 : Nat) (c r : Int) (hkk2 : c + k106 = 8) (hc2 : 0 ≤ c) (hr9 : 0 ≤ r ∧ r < 256) (hq2 : mSumR K e b (m_now M (62 + 27 * e + 2)) = it (fun c r => it (mSumI K e b (m_now M (62 + 27 * e + 2)) c) 8 0 r) k106 c r) (H : Heap) (locs : List Loc) (ls : Array Slot), HW g A zs.heap (mF g o ad (m_refused K) (m_now K) (m_kept K) (m_states K) (m_place K) (m_startFact K) (m_node K) (m_fact K) (m_ahead K) (m_inside K) (m_entries K) (m_caller K) (m_following K) (m_firstCaller K) (m_lastCaller K) (m_callers K) (m_known K) (m_loose K) (m_stack K) (m_high K) (m_pairs K) (m_told K) (m_text K) (m_typed K) (m_orders K) (m_written K) (m_look K)) H locs → lv_has ls 8 [(0, .ref (o)), (1, .int (iI (e))), (2, .int (iI (b))), (3, .int (iI ((m_now M) (62 + 27 * e + 2)))), (4, .int (iI (r))), (5, .int (iI (c)))] → W zp l ze (rmm 6 147) zs zm (List.toArray [.ref (o), .int (iI (e)), .int (iI (b))]) zb zt zc H locs 0 0 (MQ zb (QW g (mF g o ad (m_refused M) (m_now M) (m_kept M) (m_states M) (m_place M) (m_startFact M) (m_node M) (m_fact M) (m_ahead M) (m_inside M) (m_entries M) (m_caller M) (m_following M) (m_firstCaller M) (m_lastCaller M) (m_callers M) (m_known M) (m_loose M) (m_stack M) (m_high M) (m_pairs M) (m_told M) (m_text M) (m_typed M) (m_orders M) (m_written M) (m_look M)) (mF g o ad (m_refused ((mSummary e b M).2)) (m_now ((mSummary e b M).2)) (m_kept ((mSummary e b M).2)) (m_states ((mSummary e b M).2)) (m_place ((mSummary e b M).2)) (m_startFact ((mSummary e b M).2)) (m_node ((mSummary e b M).2)) (m_fact ((mSummary e b M).2)) (m_ahead ((mSummary e b M).2)) (m_inside ((mSummary e b M).2)) (m_entries ((mSummary e b M).2)) (m_caller ((mSummary e b M).2)) (m_following ((mSummary e b M).2)) (m_firstCaller ((mSummary e b M).2)) (m_lastCaller ((mSummary e b M).2)) (m_callers ((mSummary e b M).2)) (m_known ((mSummary e b M).2)) (m_loose ((mSummary e b M).2)) (m_stack ((mSummary e b M).2)) (m_high ((mSummary e b M).2)) (m_pairs ((mSummary e b M).2)) (m_told ((mSummary e b M).2)) (m_text ((mSummary e b M).2)) (m_typed ((mSummary e b M).2)) (m_orders ((mSummary e b M).2)) (m_written ((mSummary e b M).2)) (m_look ((mSummary e b M).2))) zs.heap.size (some (.int (iI ((mSummary e b M).1))))) (List.toArray [.ref (o), .int (iI (e)), .int (iI (b))]) zs 0 0 A) (F0 zm 106 ls []) := by
                intro k106
                induction k106 with
                | zero =>
                  intro c r hkk2 hc2 hr9 hq2 H locs ls hW hl
                  refine r_iload C dX5_summary_106 hl 5 rfl ?_
                  refine r_bipush (z := 8) C dX5_summary_108 rfl ?_
                  refine r_icmp_ge C 207 dX5_summary_110 (by decide) (by omega) (by omega) (fun hc6 => ?_) (fun hc6 => ?_)
                  · skip
                    refine r_aload_n C dX5_summary_207 hl 0 rfl ?_
                    refine r_iconst (z := 0) C dX5_summary_208 rfl ?_
                    refine r_put C f_X5_77 fp_5_16 hW (mF g o ad (m_refused K) (m_now K) (m_kept K) (m_states K) (m_place K) (m_startFact K) (m_node K) (m_fact K) (m_ahead K) (m_inside K) (m_entries K) (m_caller K) (m_following K) (m_firstCaller K) (m_lastCaller K) (m_callers K) 0 (m_loose K) (m_stack K) (m_high K) (m_pairs K) (m_told K) (m_text K) (m_typed K) (m_orders K) (m_written K) (m_look K)) 0 rfl (by decide) (by decide) (Nat.le_of_ble_eq_true rfl) rfl dX5_summary_209 (fun H locs hW => ?_)
                    refine r_iload C dX5_summary_212 hl 4 rfl ?_
                    have hE : mSummary e b M = (r, (m_refused K, m_now K, m_kept K, m_states K, m_place K, m_startFact K, m_node K, m_fact K, m_ahead K, m_inside K, m_entries K, m_caller K, m_following K, m_firstCaller K, m_lastCaller K, m_callers K, 0, m_loose K, m_stack K, m_high K, m_pairs K, m_told K, m_text K, m_typed K, m_orders K, m_written K, m_look K)) := by
                      have hq9 : mSumR K e b (m_now M (62 + 27 * e + 2)) = r := hq2
                      unfold mSummary
                      rw [if_pos (by omega), if_neg (by omega), hK, hq9]
                    exact MW_iret C hAe hrt hlk hW dX5_summary_214 (iw (by rw [hE])) (by rw [hE])
                  · exact absurd hc6 (by omega)
                | succ k106 ih106 =>
                  intro c r hkk2 hc2 hr9 hq2 H locs ls hW hl
                  refine r_iload C dX5_summary_106 hl 5 rfl ?_
                  refine r_bipush (z := 8) C dX5_summary_108 rfl ?_
                  refine r_icmp_ge C 207 dX5_summary_110 (by decide) (by omega) (by omega) (fun hc7 => ?_) (fun hc7 => ?_)
                  · exact absurd hc7 (by omega)
                  · skip
                    refine r_iconst (z := 0) C dX5_summary_113 rfl ?_
                    refine r_istore C [(6, .int (iI (0))), (0, .ref (o)), (1, .int (iI (e))), (2, .int (iI (b))), (3, .int (iI ((m_now M) (62 + 27 * e + 2)))), (4, .int (iI (r))), (5, .int (iI (c)))] dX5_summary_114 hl (by decide) rfl (fun ls hl => ?_)
                    have hloop116 : ∀ (k116 : Nat) (f s : Int) (hkk3 : f + k116 = 8) (hf : 0 ≤ f) (hs9 : 0 ≤ s ∧ s < 256) (hq3 : it (mSumI K e b (m_now M (62 + 27 * e + 2)) c) 8 0 r = it (mSumI K e b (m_now M (62 + 27 * e + 2)) c) k116 f s) (H : Heap) (locs : List Loc) (ls : Array Slot), HW g A zs.heap (mF g o ad (m_refused K) (m_now K) (m_kept K) (m_states K) (m_place K) (m_startFact K) (m_node K) (m_fact K) (m_ahead K) (m_inside K) (m_entries K) (m_caller K) (m_following K) (m_firstCaller K) (m_lastCaller K) (m_callers K) (m_known K) (m_loose K) (m_stack K) (m_high K) (m_pairs K) (m_told K) (m_text K) (m_typed K) (m_orders K) (m_written K) (m_look K)) H locs → lv_has ls 8 [(0, .ref (o)), (1, .int (iI (e))), (2, .int (iI (b))), (3, .int (iI ((m_now M) (62 + 27 * e + 2)))), (4, .int (iI (s))), (5, .int (iI (c))), (6, .int (iI (f)))] → W zp l ze (rmm 6 147) zs zm (List.toArray [.ref (o), .int (iI (e)), .int (iI (b))]) zb zt zc H locs 0 0 (MQ zb (QW g (mF g o ad (m_refused M) (m_now M) (m_kept M) (m_states M) (m_place M) (m_startFact M) (m_node M) (m_fact M) (m_ahead M) (m_inside M) (m_entries M) (m_caller M) (m_following M) (m_firstCaller M) (m_lastCaller M) (m_callers M) (m_known M) (m_loose M) (m_stack M) (m_high M) (m_pairs M) (m_told M) (m_text M) (m_typed M) (m_orders M) (m_written M) (m_look M)) (mF g o ad (m_refused ((mSummary e b M).2)) (m_now ((mSummary e b M).2)) (m_kept ((mSummary e b M).2)) (m_states ((mSummary e b M).2)) (m_place ((mSummary e b M).2)) (m_startFact ((mSummary e b M).2)) (m_node ((mSummary e b M).2)) (m_fact ((mSummary e b M).2)) (m_ahead ((mSummary e b M).2)) (m_inside ((mSummary e b M).2)) (m_entries ((mSummary e b M).2)) (m_caller ((mSummary e b M).2)) (m_following ((mSummary e b M).2)) (m_firstCaller ((mSummary e b M).2)) (m_lastCaller ((mSummary e b M).2)) (m_callers ((mSummary e b M).2)) (m_known ((mSummary e b M).2)) (m_loose ((mSummary e b M).2)) (m_stack ((mSummary e b M).2)) (m_high ((mSummary e b M).2)) (m_pairs ((mSummary e b M).2)) (m_told ((mSummary e b M).2)) (m_text ((mSummary e b M).2)) (m_typed ((mSummary e b M).2)) (m_orders ((mSummary e b M).2)) (m_written ((mSummary e b M).2)) (m_look ((mSummary e b M).2))) zs.heap.size (some (.int (iI ((mSummary e b M).1))))) (List.toArray [.ref (o), .int (iI (e)), .int (iI (b))]) zs 0 0 A) (F0 zm 116 ls []) := by
                      intro k116
                      induction k116 with
                      | zero =>
                        intro f s hkk3 hf hs9 hq3 H locs ls hW hl
                        refine r_iload C dX5_summary_116 hl 6 rfl ?_
                        refine r_bipush (z := 8) C dX5_summary_118 rfl ?_
                        refine r_icmp_ge C 201 dX5_summary_120 (by decide) (by omega) (by omega) (fun hc8 => ?_) (fun hc8 => ?_)
                        · skip
                          refine r_iinc (v := c + 1) C [(5, .int (iI (c + 1))), (0, .ref (o)), (1, .int (iI (e))), (2, .int (iI (b))), (3, .int (iI ((m_now M) (62 + 27 * e + 2)))), (4, .int (iI (s))), (6, .int (iI (f)))] dX5_summary_201 hl 5 rfl (by decide) (by omega) rfl (fun ls hl => ?_)
                          refine r_goto C 106 dX5_summary_204 (by decide) ?_
                          exact ih106 (c + 1) s (by omega) (by omega) (by omega) (by rw [hq2, it_s, hq3]; rfl) _ _ ls hW (lv_sub hl [1, 2, 3, 4, 5, 0] rfl)
                        · exact absurd hc8 (by omega)
                      | succ k116 ih116 =>
                        intro f s hkk3 hf hs9 hq3 H locs ls hW hl
                        refine r_iload C dX5_summary_116 hl 6 rfl ?_
                        refine r_bipush (z := 8) C dX5_summary_118 rfl ?_
                        refine r_icmp_ge C 201 dX5_summary_120 (by decide) (by omega) (by omega) (fun hc9 => ?_) (fun hc9 => ?_)
                        · exact absurd hc9 (by omega)
                        · skip
                          refine r_aload_n C dX5_summary_123 hl 0 rfl ?_
                          refine r_iload_n C dX5_summary_124 hl 1 rfl ?_
                          refine r_iconst (z := 1) C dX5_summary_125 rfl ?_
                          refine r_iload_n C dX5_summary_126 hl 2 rfl ?_
                          refine r_callR (rest := []) (r := .int (iI ((m_now K) (62 + 27 * e + 3 + 8 * 1 + b)))) C hl.1 (c_X5_flowOf l g o ad (m_refused K) (m_now K) (m_kept K) (m_states K) (m_place K) (m_startFact K) (m_node K) (m_fact K) (m_ahead K) (m_inside K) (m_entries K) (m_caller K) (m_following K) (m_firstCaller K) (m_lastCaller K) (m_callers K) (m_known K) (m_loose K) (m_stack K) (m_high K) (m_pairs K) (m_told K) (m_text K) (m_typed K) (m_orders K) (m_written K) (m_look K) e 1 b (by assumption) (show 0 ≤ e ∧ e < 32 by omega) (show 0 ≤ 1 ∧ 1 < 3 by omega) (show 0 ≤ b ∧ b < 8 by omega)) v_X5_124 rfl hW.1 0 rfl rfl rfl (by decide) (by decide) (Nat.le_of_ble_eq_true rfl) dX5_summary_127 rfl ?_
                          have hq10 := nFlow_q ((m_now K)) e 1 b (by assumption) (by omega) (by omega) (by omega)
                          refine r_iload C dX5_summary_130 hl 5 rfl ?_
                          refine r_ishr C (by omega) (by omega) (by omega) (by omega) dX5_summary_132 ?_
                          have hb11 : 0 ≤ ((m_now K) (62 + 27 * e + 3 + 8 * 1 + b)) / p2 c := Int.ediv_nonneg (by omega) (Int.le_of_lt (p2_0 _))
                          refine r_iconst (z := 1) C dX5_summary_133 rfl ?_
                          refine r_iand C (by omega) (by omega) dX5_summary_134 ?_
                          have hb12 := bA_0 (((m_now K) (62 + 27 * e + 3 + 8 * 1 + b)) / p2 c) 1
                          have hb14 := Nat.and_le_right (n := (((m_now K) (62 + 27 * e + 3 + 8 * 1 + b)) / p2 c).toNat) (m := (1 : Int).toNat); have hb13 : bA (((m_now K) (62 + 27 * e + 3 + 8 * 1 + b)) / p2 c) 1 ≤ 1 := by unfold bA; omega
                          refine r_iconst (z := 1) C dX5_summary_135 rfl ?_
                          refine r_icmp_ne C 170 dX5_summary_136 (by decide) (by omega) (by omega) (fun hc15 => ?_) (fun hc15 => ?_)
                          · skip
                            refine r_iconst (z := 0) C dX5_summary_170 rfl ?_
                            refine r_istore C [(7, .int (iI (0))), (0, .ref (o)), (1, .int (iI (e))), (2, .int (iI (b))), (3, .int (iI ((m_now M) (62 + 27 * e + 2)))), (4, .int (iI (s))), (5, .int (iI (c))), (6, .int (iI (f)))] dX5_summary_171 hl (by decide) rfl (fun ls hl => ?_)
                            refine r_iload C dX5_summary_173 hl 5 rfl ?_
                            refine r_iload C dX5_summary_175 hl 0 rfl ?_
                            refine r_if_eq C 191 dX5_summary_177 (by decide) (by omega) (fun hc16 => ?_) (fun hc16 => ?_)
                            · skip
                              refine r_iconst (z := 0) C dX5_summary_191 rfl ?_
                              refine r_ior C (by omega) (by omega) dX5_summary_192 ?_
                              have hb17 := bO_0 s 0
                              have hb18 : bO s 0 < 256 := bO_8 (by omega) (by omega)
                              refine r_istore C [(4, .int (iI (bO s 0))), (7, .int (iI (0))), (0, .ref (o)), (1, .int (iI (e))), (2, .int (iI (b))), (3, .int (iI ((m_now M) (62 + 27 * e + 2)))), (5, .int (iI (c))), (6, .int (iI (f)))] dX5_summary_193 hl (by decide) rfl (fun ls hl => ?_)
                              refine r_iinc (v := f + 1) C [(6, .int (iI (f + 1))), (4, .int (iI (bO s 0))), (7, .int (iI (0))), (0, .ref (o)), (1, .int (iI (e))), (2, .int (iI (b))), (3, .int (iI ((m_now M) (62 + 27 * e + 2)))), (5, .int (iI (c)))] dX5_summary_195 hl 7 rfl (by decide) (by omega) rfl (fun ls hl => ?_)
                              refine r_goto C 116 dX5_summary_198 (by decide) ?_
                              have hE : mSumI K e b (m_now M (62 + 27 * e + 2)) c f s = bO s 0 := congrArg (bO s) (if_neg (show ¬ (bA (m_now K (62 + 27 * e + 3 + 8 * 1 + b) / p2 c) 1 = 1 ∧ 0 < m_place K ((8 * m_now K (4 + 2 * (m_now M (62 + 27 * e + 2)) + 1) + c) * 8 + f)) by omega))
                              exact ih116 (f + 1) (bO s 0) (by omega) (by omega) (by omega) (by rw [hq3, it_s, hE]) _ _ ls hW (lv_sub hl [3, 4, 5, 6, 1, 7, 0] rfl)
                            · exact absurd hc16 (by omega)
                          · skip
                            refine r_aload_n C dX5_summary_139 hl 0 rfl ?_
                            refine r_get (v := .ref (ad 3)) C f_X5_19 hW.1 0 rfl rfl dX5_summary_140 ?_
                            refine r_iload C dX5_summary_143 hl 5 rfl ?_
                            refine r_aload_n C dX5_summary_145 hl 0 rfl ?_
                            refine r_get (v := .ref (ad 1)) C f_X5_13 hW.1 0 rfl rfl dX5_summary_146 ?_
                            refine r_iconst (z := 4) C dX5_summary_149 rfl ?_
                            refine r_iconst (z := 2) C dX5_summary_150 rfl ?_
                            refine r_iload_n C dX5_summary_151 hl 3 rfl ?_
                            refine r_imul C dX5_summary_152 ?_
                            refine r_iadd C dX5_summary_153 ?_
                            refine r_iconst (z := 1) C dX5_summary_154 rfl ?_
                            refine r_iadd C dX5_summary_155 ?_
                            refine r_iald (f := m_now K) C hW.1 2 rfl (Nat.le_of_ble_eq_true rfl) (by omega) dX5_summary_156 ?_
                            have hr19 := nEnd_q (m_now K) ((4 + (2 * ((m_now M) (62 + 27 * e + 2)))) + 1) hKN (by omega)
                            refine r_iload C dX5_summary_157 hl 6 rfl ?_
                            refine r_callRS (rest := [.ref (ad 3)]) (r := .int (iI ((8 * (m_now K ((4 + (2 * ((m_now M) (62 + 27 * e + 2)))) + 1)) + c) * 8 + f))) C hl.1 (c_X5_key l g  c (m_now K ((4 + (2 * ((m_now M) (62 + 27 * e + 2)))) + 1)) f) v_X5_161 rfl (fun k q h => by simp at h) (by decide) (by decide) (Nat.le_of_ble_eq_true rfl) dX5_summary_159 rfl ?_
                            refine r_iald (f := m_place K) C hW.1 4 rfl (Nat.le_of_ble_eq_true rfl) (by omega) dX5_summary_162 ?_
                            have hr20 := hKo_place ((8 * (m_now K ((4 + (2 * ((m_now M) (62 + 27 * e + 2)))) + 1)) + c) * 8 + f) (by omega) (by omega)
                            refine r_if_le C 170 dX5_summary_163 (by decide) (by omega) (fun hc21 => ?_) (fun hc21 => ?_)
                            · skip
                              refine r_iconst (z := 0) C dX5_summary_170 rfl ?_
                              refine r_istore C [(7, .int (iI (0))), (0, .ref (o)), (1, .int (iI (e))), (2, .int (iI (b))), (3, .int (iI ((m_now M) (62 + 27 * e + 2)))), (4, .int (iI (s))), (5, .int (iI (c))), (6, .int (iI (f)))] dX5_summary_171 hl (by decide) rfl (fun ls hl => ?_)
                              refine r_iload C dX5_summary_173 hl 5 rfl ?_
                              refine r_iload C dX5_summary_175 hl 0 rfl ?_
                              refine r_if_eq C 191 dX5_summary_177 (by decide) (by omega) (fun hc22 => ?_) (fun hc22 => ?_)
                              · skip
                                refine r_iconst (z := 0) C dX5_summary_191 rfl ?_
                                refine r_ior C (by omega) (by omega) dX5_summary_192 ?_
                                have hb23 := bO_0 s 0
                                have hb24 : bO s 0 < 256 := bO_8 (by omega) (by omega)
                                refine r_istore C [(4, .int (iI (bO s 0))), (7, .int (iI (0))), (0, .ref (o)), (1, .int (iI (e))), (2, .int (iI (b))), (3, .int (iI ((m_now M) (62 + 27 * e + 2)))), (5, .int (iI (c))), (6, .int (iI (f)))] dX5_summary_193 hl (by decide) rfl (fun ls hl => ?_)
                                refine r_iinc (v := f + 1) C [(6, .int (iI (f + 1))), (4, .int (iI (bO s 0))), (7, .int (iI (0))), (0, .ref (o)), (1, .int (iI (e))), (2, .int (iI (b))), (3, .int (iI ((m_now M) (62 + 27 * e + 2)))), (5, .int (iI (c)))] dX5_summary_195 hl 7 rfl (by decide) (by omega) rfl (fun ls hl => ?_)
                                refine r_goto C 116 dX5_summary_198 (by decide) ?_
                                have hE : mSumI K e b (m_now M (62 + 27 * e + 2)) c f s = bO s 0 := congrArg (bO s) (if_neg (show ¬ (bA (m_now K (62 + 27 * e + 3 + 8 * 1 + b) / p2 c) 1 = 1 ∧ 0 < m_place K ((8 * m_now K (4 + 2 * (m_now M (62 + 27 * e + 2)) + 1) + c) * 8 + f)) by omega))
                                exact ih116 (f + 1) (bO s 0) (by omega) (by omega) (by omega) (by rw [hq3, it_s, hE]) _ _ ls hW (lv_sub hl [3, 4, 5, 6, 1, 7, 0] rfl)
                              · exact absurd hc22 (by omega)
                            · skip
                              refine r_iconst (z := 1) C dX5_summary_166 rfl ?_
                              refine r_goto C 171 dX5_summary_167 (by decide) ?_
                              refine r_istore C [(7, .int (iI (1))), (0, .ref (o)), (1, .int (iI (e))), (2, .int (iI (b))), (3, .int (iI ((m_now M) (62 + 27 * e + 2)))), (4, .int (iI (s))), (5, .int (iI (c))), (6, .int (iI (f)))] dX5_summary_171 hl (by decide) rfl (fun ls hl => ?_)
                              refine r_iload C dX5_summary_173 hl 5 rfl ?_
                              refine r_iload C dX5_summary_175 hl 0 rfl ?_
                              refine r_if_eq C 191 dX5_summary_177 (by decide) (by omega) (fun hc25 => ?_) (fun hc25 => ?_)
                              · exact absurd hc25 (by omega)
                              · skip
                                refine r_aload_n C dX5_summary_180 hl 1 rfl ?_
                                refine r_iload_n C dX5_summary_181 hl 2 rfl ?_
                                refine r_iconst (z := 2) C dX5_summary_182 rfl ?_
                                refine r_iload C dX5_summary_183 hl 7 rfl ?_
                                refine r_callR (rest := [.int (iI (s))]) (r := .int (iI ((m_now K) (62 + 27 * e + 3 + 8 * 2 + f)))) C hl.1 (c_X5_flowOf l g o ad (m_refused K) (m_now K) (m_kept K) (m_states K) (m_place K) (m_startFact K) (m_node K) (m_fact K) (m_ahead K) (m_inside K) (m_entries K) (m_caller K) (m_following K) (m_firstCaller K) (m_lastCaller K) (m_callers K) (m_known K) (m_loose K) (m_stack K) (m_high K) (m_pairs K) (m_told K) (m_text K) (m_typed K) (m_orders K) (m_written K) (m_look K) e 2 f (by assumption) (show 0 ≤ e ∧ e < 32 by omega) (show 0 ≤ 2 ∧ 2 < 3 by omega) (show 0 ≤ f ∧ f < 8 by omega)) v_X5_124 rfl hW.1 0 rfl rfl rfl (by decide) (by decide) (Nat.le_of_ble_eq_true rfl) dX5_summary_185 rfl ?_
                                have hq26 := nFlow_q ((m_now K)) e 2 f (by assumption) (by omega) (by omega) (by omega)
                                refine r_goto C 192 dX5_summary_188 (by decide) ?_
                                refine r_ior C (by omega) (by omega) dX5_summary_192 ?_
                                have hb27 := bO_0 s ((m_now K) (62 + 27 * e + 3 + 8 * 2 + f))
                                have hb28 : bO s ((m_now K) (62 + 27 * e + 3 + 8 * 2 + f)) < 256 := bO_8 (by omega) (by omega)
                                refine r_istore C [(4, .int (iI (bO s ((m_now K) (62 + 27 * e + 3 + 8 * 2 + f))))), (7, .int (iI (1))), (0, .ref (o)), (1, .int (iI (e))), (2, .int (iI (b))), (3, .int (iI ((m_now M) (62 + 27 * e + 2)))), (5, .int (iI (c))), (6, .int (iI (f)))] dX5_summary_193 hl (by decide) rfl (fun ls hl => ?_)
                                refine r_iinc (v := f + 1) C [(6, .int (iI (f + 1))), (4, .int (iI (bO s ((m_now K) (62 + 27 * e + 3 + 8 * 2 + f))))), (7, .int (iI (1))), (0, .ref (o)), (1, .int (iI (e))), (2, .int (iI (b))), (3, .int (iI ((m_now M) (62 + 27 * e + 2)))), (5, .int (iI (c)))] dX5_summary_195 hl 7 rfl (by decide) (by omega) rfl (fun ls hl => ?_)
                                refine r_goto C 116 dX5_summary_198 (by decide) ?_
                                have hE : mSumI K e b (m_now M (62 + 27 * e + 2)) c f s = bO s ((m_now K) (62 + 27 * e + 3 + 8 * 2 + f)) := congrArg (bO s) (if_pos (show bA (m_now K (62 + 27 * e + 3 + 8 * 1 + b) / p2 c) 1 = 1 ∧ 0 < m_place K ((8 * m_now K (4 + 2 * (m_now M (62 + 27 * e + 2)) + 1) + c) * 8 + f) by omega))
                                exact ih116 (f + 1) (bO s ((m_now K) (62 + 27 * e + 3 + 8 * 2 + f))) (by omega) (by omega) (by omega) (by rw [hq3, it_s, hE]) _ _ ls hW (lv_sub hl [3, 4, 5, 6, 1, 7, 0] rfl)
                    exact hloop116 8 0 r (by omega) (by omega) (by omega) rfl _ _ ls hW (lv_sub hl [1, 2, 3, 4, 5, 6, 0] rfl)
              exact hloop106 8 0 0 (by omega) (by omega) (by omega) rfl _ _ ls hW (lv_sub hl [2, 3, 4, 5, 1, 0] rfl)
            · exact absurd hc5 (by omega)
          | succ k47 ih47 =>
            intro c X hkk hc hXv hXo hq H locs ls hW hl
            obtain ⟨hXo_refused, hXo_states, hXo_place, hXo_startFact, hXo_node, hXo_fact, hXo_ahead, hXo_inside, hXo_entries, hXo_caller, hXo_following, hXo_firstCaller, hXo_lastCaller, hXo_callers, hXo_known, hXo_loose, hXo_stack, hXo_high, hXo_pairs, hXo_told, hXo_text, hXo_typed, hXo_orders, hXo_written, hXo_look⟩ := id hXo
            have hXn : m_now X = m_now M := hXv.2.2.1
            have hXN : nOk (m_now X) := by rw [hXn]; exact hN
            refine r_iload C dX5_summary_47 hl 4 rfl ?_
            refine r_bipush (z := 8) C dX5_summary_49 rfl ?_
            refine r_icmp_ge C 96 dX5_summary_51 (by decide) (by omega) (by omega) (fun hc29 => ?_) (fun hc29 => ?_)
            · exact absurd hc29 (by omega)
            · skip
              refine r_aload_n C dX5_summary_54 hl 0 rfl ?_
              refine r_iload_n C dX5_summary_55 hl 1 rfl ?_
              refine r_iconst (z := 1) C dX5_summary_56 rfl ?_
              refine r_iload_n C dX5_summary_57 hl 2 rfl ?_
              refine r_callR (rest := []) (r := .int (iI ((m_now X) (62 + 27 * e + 3 + 8 * 1 + b)))) C hl.1 (c_X5_flowOf l g o ad (m_refused X) (m_now X) (m_kept X) (m_states X) (m_place X) (m_startFact X) (m_node X) (m_fact X) (m_ahead X) (m_inside X) (m_entries X) (m_caller X) (m_following X) (m_firstCaller X) (m_lastCaller X) (m_callers X) (m_known X) (m_loose X) (m_stack X) (m_high X) (m_pairs X) (m_told X) (m_text X) (m_typed X) (m_orders X) (m_written X) (m_look X) e 1 b (by assumption) (show 0 ≤ e ∧ e < 32 by omega) (show 0 ≤ 1 ∧ 1 < 3 by omega) (show 0 ≤ b ∧ b < 8 by omega)) v_X5_124 rfl hW.1 0 rfl rfl rfl (by decide) (by decide) (Nat.le_of_ble_eq_true rfl) dX5_summary_58 rfl ?_
              have hq30 := nFlow_q ((m_now X)) e 1 b (by assumption) (by omega) (by omega) (by omega)
              refine r_iload C dX5_summary_61 hl 4 rfl ?_
              refine r_ishr C (by omega) (by omega) (by omega) (by omega) dX5_summary_63 ?_
              have hb31 : 0 ≤ ((m_now X) (62 + 27 * e + 3 + 8 * 1 + b)) / p2 c := Int.ediv_nonneg (by omega) (Int.le_of_lt (p2_0 _))
              refine r_iconst (z := 1) C dX5_summary_64 rfl ?_
              refine r_iand C (by omega) (by omega) dX5_summary_65 ?_
              have hb32 := bA_0 (((m_now X) (62 + 27 * e + 3 + 8 * 1 + b)) / p2 c) 1
              have hb34 := Nat.and_le_right (n := (((m_now X) (62 + 27 * e + 3 + 8 * 1 + b)) / p2 c).toNat) (m := (1 : Int).toNat); have hb33 : bA (((m_now X) (62 + 27 * e + 3 + 8 * 1 + b)) / p2 c) 1 ≤ 1 := by unfold bA; omega
              refine r_iconst (z := 1) C dX5_summary_66 rfl ?_
              refine r_icmp_ne C 90 dX5_summary_67 (by decide) (by omega) (by omega) (fun hc35 => ?_) (fun hc35 => ?_)
              · skip
                refine r_iinc (v := c + 1) C [(4, .int (iI (c + 1))), (0, .ref (o)), (1, .int (iI (e))), (2, .int (iI (b))), (3, .int (iI ((m_now M) (62 + 27 * e + 2))))] dX5_summary_90 hl 4 rfl (by decide) (by omega) rfl (fun ls hl => ?_)
                refine r_goto C 47 dX5_summary_93 (by decide) ?_
                have hE : mSeedF (m_now M (4 + 2 * (m_now M (62 + 27 * e + 2)))) (m_now M (62 + 27 * e + 3 + 8 * 1 + b)) c X = X := if_neg (by rw [← hXn]; exact hc35)
                have hS := vV_seedF (n := (m_now M (4 + 2 * (m_now M (62 + 27 * e + 2))))) (x := (m_now M (62 + 27 * e + 3 + 8 * 1 + b))) (a := c) hN hXv hn4 (by omega)
                exact ih47 (c + 1) (mSeedF (m_now M (4 + 2 * (m_now M (62 + 27 * e + 2)))) (m_now M (62 + 27 * e + 3 + 8 * 1 + b)) c X) (by omega) (by omega) hS.1 hS.1.2.1 (by rw [hq, it_s]) _ _ ls (by rw [hE]; exact hW) (lv_sub hl [1, 2, 3, 4, 0] rfl)
              · skip
                refine r_aload_n C dX5_summary_70 hl 0 rfl ?_
                refine r_iload C dX5_summary_71 hl 4 rfl ?_
                refine r_aload_n C dX5_summary_73 hl 0 rfl ?_
                refine r_get (v := .ref (ad 1)) C f_X5_13 hW.1 0 rfl rfl dX5_summary_74 ?_
                refine r_iconst (z := 4) C dX5_summary_77 rfl ?_
                refine r_iconst (z := 2) C dX5_summary_78 rfl ?_
                refine r_iload_n C dX5_summary_79 hl 3 rfl ?_
                refine r_imul C dX5_summary_80 ?_
                refine r_iadd C dX5_summary_81 ?_
                refine r_iald (f := m_now X) C hW.1 2 rfl (Nat.le_of_ble_eq_true rfl) (by omega) dX5_summary_82 ?_
                have hr36 := nEnd_q (m_now X) (4 + (2 * ((m_now M) (62 + 27 * e + 2)))) hXN (by omega)
                refine r_iload C dX5_summary_83 hl 4 rfl ?_
                refine r_iconst (z := -1) C dX5_summary_85 rfl ?_
                refine r_iconst (z := -1) C dX5_summary_86 rfl ?_
                refine r_callW (rest := []) (r := none) (wr := []) (ws2 := mF g o ad (m_refused (mComes c (m_now X (4 + (2 * ((m_now M) (62 + 27 * e + 2))))) c (-1) (-1) X)) (m_now (mComes c (m_now X (4 + (2 * ((m_now M) (62 + 27 * e + 2))))) c (-1) (-1) X)) (m_kept (mComes c (m_now X (4 + (2 * ((m_now M) (62 + 27 * e + 2))))) c (-1) (-1) X)) (m_states (mComes c (m_now X (4 + (2 * ((m_now M) (62 + 27 * e + 2))))) c (-1) (-1) X)) (m_place (mComes c (m_now X (4 + (2 * ((m_now M) (62 + 27 * e + 2))))) c (-1) (-1) X)) (m_startFact (mComes c (m_now X (4 + (2 * ((m_now M) (62 + 27 * e + 2))))) c (-1) (-1) X)) (m_node (mComes c (m_now X (4 + (2 * ((m_now M) (62 + 27 * e + 2))))) c (-1) (-1) X)) (m_fact (mComes c (m_now X (4 + (2 * ((m_now M) (62 + 27 * e + 2))))) c (-1) (-1) X)) (m_ahead (mComes c (m_now X (4 + (2 * ((m_now M) (62 + 27 * e + 2))))) c (-1) (-1) X)) (m_inside (mComes c (m_now X (4 + (2 * ((m_now M) (62 + 27 * e + 2))))) c (-1) (-1) X)) (m_entries (mComes c (m_now X (4 + (2 * ((m_now M) (62 + 27 * e + 2))))) c (-1) (-1) X)) (m_caller (mComes c (m_now X (4 + (2 * ((m_now M) (62 + 27 * e + 2))))) c (-1) (-1) X)) (m_following (mComes c (m_now X (4 + (2 * ((m_now M) (62 + 27 * e + 2))))) c (-1) (-1) X)) (m_firstCaller (mComes c (m_now X (4 + (2 * ((m_now M) (62 + 27 * e + 2))))) c (-1) (-1) X)) (m_lastCaller (mComes c (m_now X (4 + (2 * ((m_now M) (62 + 27 * e + 2))))) c (-1) (-1) X)) (m_callers (mComes c (m_now X (4 + (2 * ((m_now M) (62 + 27 * e + 2))))) c (-1) (-1) X)) (m_known (mComes c (m_now X (4 + (2 * ((m_now M) (62 + 27 * e + 2))))) c (-1) (-1) X)) (m_loose (mComes c (m_now X (4 + (2 * ((m_now M) (62 + 27 * e + 2))))) c (-1) (-1) X)) (m_stack (mComes c (m_now X (4 + (2 * ((m_now M) (62 + 27 * e + 2))))) c (-1) (-1) X)) (m_high (mComes c (m_now X (4 + (2 * ((m_now M) (62 + 27 * e + 2))))) c (-1) (-1) X)) (m_pairs (mComes c (m_now X (4 + (2 * ((m_now M) (62 + 27 * e + 2))))) c (-1) (-1) X)) (m_told (mComes c (m_now X (4 + (2 * ((m_now M) (62 + 27 * e + 2))))) c (-1) (-1) X)) (m_text (mComes c (m_now X (4 + (2 * ((m_now M) (62 + 27 * e + 2))))) c (-1) (-1) X)) (m_typed (mComes c (m_now X (4 + (2 * ((m_now M) (62 + 27 * e + 2))))) c (-1) (-1) X)) (m_orders (mComes c (m_now X (4 + (2 * ((m_now M) (62 + 27 * e + 2))))) c (-1) (-1) X)) (m_written (mComes c (m_now X (4 + (2 * ((m_now M) (62 + 27 * e + 2))))) c (-1) (-1) X)) (m_look (mComes c (m_now X (4 + (2 * ((m_now M) (62 + 27 * e + 2))))) c (-1) (-1) X))) (st1 := []) C hl.1 hW hA (c_X5_comes l g o ad (m_refused X) (m_now X) (m_kept X) (m_states X) (m_place X) (m_startFact X) (m_node X) (m_fact X) (m_ahead X) (m_inside X) (m_entries X) (m_caller X) (m_following X) (m_firstCaller X) (m_lastCaller X) (m_callers X) (m_known X) (m_loose X) (m_stack X) (m_high X) (m_pairs X) (m_told X) (m_text X) (m_typed X) (m_orders X) (m_written X) (m_look X) c (m_now X (4 + (2 * ((m_now M) (62 + 27 * e + 2))))) c (-1) (-1) (by assumption) (show 0 ≤ c ∧ c < 8 by omega) (show 0 ≤ (m_now X (4 + (2 * ((m_now M) (62 + 27 * e + 2))))) ∧ (m_now X (4 + (2 * ((m_now M) (62 + 27 * e + 2))))) < 24 by omega) (show 0 ≤ c ∧ c < 8 by omega) (fun hp => mC_lt hXv.1 (k := (8 * m_now X (4 + 2 * (m_now M (62 + 27 * e + 2))) + c) * 8 + c) (by omega) (by omega) hp)) v_X5_164 rfl [0, 1, 2, 3, 4, 5, 6, 7, 8, 9, 10, 11, 12, 13, 14, 15, 16, 17, 18] [] [0, 1, 2, 3, 4, 5, 6, 7, 8, 9, 10, 11, 12, 13, 14, 15, 16, 17, 18] rfl rfl (by decide) (by decide) rfl rfl 0 rfl rfl rfl (by decide) (by decide) (Nat.le_of_ble_eq_true rfl) dX5_summary_87 rfl rfl (fun H locs hW => ?_)
                refine r_iinc (v := c + 1) C [(4, .int (iI (c + 1))), (0, .ref (o)), (1, .int (iI (e))), (2, .int (iI (b))), (3, .int (iI ((m_now M) (62 + 27 * e + 2))))] dX5_summary_90 hl 4 rfl (by decide) (by omega) rfl (fun ls hl => ?_)
                refine r_goto C 47 dX5_summary_93 (by decide) ?_
                have hE : mSeedF (m_now M (4 + 2 * (m_now M (62 + 27 * e + 2)))) (m_now M (62 + 27 * e + 3 + 8 * 1 + b)) c X = mComes c (m_now X (4 + 2 * (m_now M (62 + 27 * e + 2)))) c (-1) (-1) X := by rw [hXn]; exact if_pos (by rw [← hXn]; omega)
                have hS := vV_seedF (n := (m_now M (4 + 2 * (m_now M (62 + 27 * e + 2))))) (x := (m_now M (62 + 27 * e + 3 + 8 * 1 + b))) (a := c) hN hXv hn4 (by omega)
                exact ih47 (c + 1) (mSeedF (m_now M (4 + 2 * (m_now M (62 + 27 * e + 2)))) (m_now M (62 + 27 * e + 3 + 8 * 1 + b)) c X) (by omega) (by omega) hS.1 hS.1.2.1 (by rw [hq, it_s]) _ _ ls (by rw [hE]; exact hW) (lv_sub hl [1, 2, 3, 4, 0] rfl)
        exact hloop47 8 0 (mClr M) (by omega) (by omega) (mClr_v hM rfl) (mClr_ok hM) rfl _ _ ls hW (lv_sub hl [2, 3, 4, 1, 0] rfl)
      · skip
        refine r_aload_n C dX5_summary_35 hl 1 rfl ?_
        refine r_callW (rest := []) (r := some (.int (iI (-3)))) (wr := []) (ws2 := mF g o ad (up ((m_refused M)) 1 ((m_refused M) 1 + 1)) (m_now M) (m_kept M) (m_states M) (m_place M) (m_startFact M) (m_node M) (m_fact M) (m_ahead M) (m_inside M) (m_entries M) (m_caller M) (m_following M) (m_firstCaller M) (m_lastCaller M) (m_callers M) (m_known M) (m_loose M) (m_stack M) (m_high M) (m_pairs M) (m_told M) (m_text M) (m_typed M) (m_orders M) (m_written M) (m_look M)) (st1 := [.int (iI (-3))]) C hl.1 hW hA (c_X5_no l g o ad (m_refused M) (m_now M) (m_kept M) (m_states M) (m_place M) (m_startFact M) (m_node M) (m_fact M) (m_ahead M) (m_inside M) (m_entries M) (m_caller M) (m_following M) (m_firstCaller M) (m_lastCaller M) (m_callers M) (m_known M) (m_loose M) (m_stack M) (m_high M) (m_pairs M) (m_told M) (m_text M) (m_typed M) (m_orders M) (m_written M) (m_look M)) v_X5_71 rfl [0, 1, 2, 3, 4, 5, 6, 7, 8, 9, 10, 11, 12, 13, 14, 15, 16, 17, 18] [] [0, 1, 2, 3, 4, 5, 6, 7, 8, 9, 10, 11, 12, 13, 14, 15, 16, 17, 18] rfl rfl (by decide) (by decide) rfl rfl 0 rfl rfl rfl (by decide) (by decide) (Nat.le_of_ble_eq_true rfl) dX5_summary_36 rfl rfl (fun H locs hW => ?_)
        have hE : mSummary e b M = (-3, (up ((m_refused M)) 1 ((m_refused M) 1 + 1), m_now M, m_kept M, m_states M, m_place M, m_startFact M, m_node M, m_fact M, m_ahead M, m_inside M, m_entries M, m_caller M, m_following M, m_firstCaller M, m_lastCaller M, m_callers M, m_known M, m_loose M, m_stack M, m_high M, m_pairs M, m_told M, m_text M, m_typed M, m_orders M, m_written M, m_look M)) := (if_pos (by omega)).trans (if_pos (by omega))
        exact MW_iret C hAe hrt hlk hW dX5_summary_39 (iw (by rw [hE])) (by rw [hE])
    · skip
      refine r_aload_n C dX5_summary_18 hl 0 rfl ?_
      refine r_callW (rest := []) (r := some (.int (iI (-2)))) (wr := []) (ws2 := mF g o ad (up ((m_refused M)) 0 ((m_refused M) 0 + 1)) (m_now M) (m_kept M) (m_states M) (m_place M) (m_startFact M) (m_node M) (m_fact M) (m_ahead M) (m_inside M) (m_entries M) (m_caller M) (m_following M) (m_firstCaller M) (m_lastCaller M) (m_callers M) (m_known M) (m_loose M) (m_stack M) (m_high M) (m_pairs M) (m_told M) (m_text M) (m_typed M) (m_orders M) (m_written M) (m_look M)) (st1 := [.int (iI (-2))]) C hl.1 hW hA (c_X5_bad l g o ad (m_refused M) (m_now M) (m_kept M) (m_states M) (m_place M) (m_startFact M) (m_node M) (m_fact M) (m_ahead M) (m_inside M) (m_entries M) (m_caller M) (m_following M) (m_firstCaller M) (m_lastCaller M) (m_callers M) (m_known M) (m_loose M) (m_stack M) (m_high M) (m_pairs M) (m_told M) (m_text M) (m_typed M) (m_orders M) (m_written M) (m_look M)) v_X5_68 rfl [0, 1, 2, 3, 4, 5, 6, 7, 8, 9, 10, 11, 12, 13, 14, 15, 16, 17, 18] [] [0, 1, 2, 3, 4, 5, 6, 7, 8, 9, 10, 11, 12, 13, 14, 15, 16, 17, 18] rfl rfl (by decide) (by decide) rfl rfl 0 rfl rfl rfl (by decide) (by decide) (Nat.le_of_ble_eq_true rfl) dX5_summary_19 rfl rfl (fun H locs hW => ?_)
      have hE : mSummary e b M = (-2, (up ((m_refused M)) 0 ((m_refused M) 0 + 1), m_now M, m_kept M, m_states M, m_place M, m_startFact M, m_node M, m_fact M, m_ahead M, m_inside M, m_entries M, m_caller M, m_following M, m_firstCaller M, m_lastCaller M, m_callers M, m_known M, m_loose M, m_stack M, m_high M, m_pairs M, m_told M, m_text M, m_typed M, m_orders M, m_written M, m_look M)) := if_neg (by omega)
      exact MW_iret C hAe hrt hlk hW dX5_summary_22 (iw (by rw [hE])) (by rw [hE])

set_option maxHeartbeats 4000000 in
set_option maxRecDepth 100000 in
theorem c_X5_spells (l : Launch) (g : GG) (o : Nat) (ad : Nat → Nat) (M : Md) (x : Int) (hM : mOk M) (hN : nOk (m_now M)) (hx : 0 ≤ x ∧ x < 1536) (hSW : spW M x) : MW l g yX5_spells cX5_spells 5 none 1 21 [.ref (o), .int (iI (x))] (mF g o ad (m_refused M) (m_now M) (m_kept M) (m_states M) (m_place M) (m_startFact M) (m_node M) (m_fact M) (m_ahead M) (m_inside M) (m_entries M) (m_caller M) (m_following M) (m_firstCaller M) (m_lastCaller M) (m_callers M) (m_known M) (m_loose M) (m_stack M) (m_high M) (m_pairs M) (m_told M) (m_text M) (m_typed M) (m_orders M) (m_written M) (m_look M)) (mF g o ad (m_refused M) (m_now M) (m_kept M) (m_states M) (m_place M) (m_startFact M) (m_node M) (m_fact M) (m_ahead M) (m_inside M) (m_entries M) (m_caller M) (m_following M) (m_firstCaller M) (m_lastCaller M) (m_callers M) (m_known M) (m_loose M) ((spAll M x).1) ((spAll M x).2.1) ((spAll M x).2.2.1) ((spAll M x).2.2.2) (m_text M) (m_typed M) (m_orders M) (m_written M) (m_look M)) none := by
  refine MW_start (by decide) (Nat.le_of_ble_eq_true rfl) ?_
  intro zp ze zs zm zb zt zc A hAe C hrt hlk hW ls hl
  have hA : ∀ q, zs.heap.size ≤ q → A q := fun q h => by rw [hAe]; exact Or.inr h
  have hl : lv_has ls 5 [(0, .ref (o)), (1, .int (iI (x)))] := hl
  have hM_refused : ∀ j : Int, 0 ≤ j → j < 3 → 0 ≤ m_refused M j ∧ m_refused M j ≤ 1000000 := hM.1
  have hM_states : 0 ≤ m_states M ∧ m_states M ≤ 5 := hM.2.1
  have hM_place : ∀ j : Int, 0 ≤ j → j < 1536 → 0 ≤ m_place M j ∧ m_place M j ≤ 1536 := hM.2.2.1
  have hM_startFact : ∀ j : Int, 0 ≤ j → j < 1536 → 0 ≤ m_startFact M j ∧ m_startFact M j ≤ 7 := hM.2.2.2.1
  have hM_node : ∀ j : Int, 0 ≤ j → j < 1536 → 0 ≤ m_node M j ∧ m_node M j ≤ 23 := hM.2.2.2.2.1
  have hM_fact : ∀ j : Int, 0 ≤ j → j < 1536 → 0 ≤ m_fact M j ∧ m_fact M j ≤ 7 := hM.2.2.2.2.2.1
  have hM_ahead : ∀ j : Int, 0 ≤ j → j < 1536 → -1 ≤ m_ahead M j ∧ m_ahead M j ≤ 1535 := hM.2.2.2.2.2.2.1
  have hM_inside : ∀ j : Int, 0 ≤ j → j < 1536 → -1 ≤ m_inside M j ∧ m_inside M j ≤ 1535 := hM.2.2.2.2.2.2.2.1
  have hM_entries : 0 ≤ m_entries M ∧ m_entries M ≤ 1536 := hM.2.2.2.2.2.2.2.2.1
  have hM_caller : ∀ j : Int, 0 ≤ j → j < 16384 → 0 ≤ m_caller M j ∧ m_caller M j ≤ 49151 := hM.2.2.2.2.2.2.2.2.2.1
  have hM_following : ∀ j : Int, 0 ≤ j → j < 16384 → -1 ≤ m_following M j ∧ m_following M j ≤ 16383 := hM.2.2.2.2.2.2.2.2.2.2.1
  have hM_firstCaller : ∀ j : Int, 0 ≤ j → j < 40 → -1 ≤ m_firstCaller M j ∧ m_firstCaller M j ≤ 16383 := hM.2.2.2.2.2.2.2.2.2.2.2.1
  have hM_lastCaller : ∀ j : Int, 0 ≤ j → j < 40 → -1 ≤ m_lastCaller M j ∧ m_lastCaller M j ≤ 16383 := hM.2.2.2.2.2.2.2.2.2.2.2.2.1
  have hM_callers : 0 ≤ m_callers M ∧ m_callers M ≤ 16384 := hM.2.2.2.2.2.2.2.2.2.2.2.2.2.1
  have hM_known : 0 ≤ m_known M ∧ m_known M ≤ 1 := hM.2.2.2.2.2.2.2.2.2.2.2.2.2.2.1
  have hM_loose : ∀ j : Int, 0 ≤ j → j < 24 → 0 ≤ m_loose M j ∧ m_loose M j ≤ 255 := hM.2.2.2.2.2.2.2.2.2.2.2.2.2.2.2.1
  have hM_stack : ∀ j : Int, 0 ≤ j → j < 8000 → 0 ≤ m_stack M j ∧ m_stack M j ≤ 6143 := hM.2.2.2.2.2.2.2.2.2.2.2.2.2.2.2.2.1
  have hM_high : 0 ≤ m_high M ∧ m_high M ≤ 8000 := hM.2.2.2.2.2.2.2.2.2.2.2.2.2.2.2.2.2.1
  have hM_pairs : ∀ j : Int, 0 ≤ j → j < 1000 → 0 ≤ m_pairs M j ∧ m_pairs M j ≤ 239 := hM.2.2.2.2.2.2.2.2.2.2.2.2.2.2.2.2.2.2.1
  have hM_told : 0 ≤ m_told M ∧ m_told M ≤ 1000 := hM.2.2.2.2.2.2.2.2.2.2.2.2.2.2.2.2.2.2.2.1
  have hM_text : ∀ j : Int, 0 ≤ j → j < 120 → 0 ≤ m_text M j ∧ m_text M j ≤ 127 := hM.2.2.2.2.2.2.2.2.2.2.2.2.2.2.2.2.2.2.2.2.1
  have hM_typed : 0 ≤ m_typed M ∧ m_typed M ≤ 120 := hM.2.2.2.2.2.2.2.2.2.2.2.2.2.2.2.2.2.2.2.2.2.1
  have hM_orders : ∀ j : Int, 0 ≤ j → j < 300 → 0 ≤ m_orders M j ∧ m_orders M j ≤ 999 := hM.2.2.2.2.2.2.2.2.2.2.2.2.2.2.2.2.2.2.2.2.2.2.1
  have hM_written : 0 ≤ m_written M ∧ m_written M ≤ 60 := hM.2.2.2.2.2.2.2.2.2.2.2.2.2.2.2.2.2.2.2.2.2.2.2.1
  have hM_look : 0 ≤ m_look M ∧ m_look M ≤ 120 := hM.2.2.2.2.2.2.2.2.2.2.2.2.2.2.2.2.2.2.2.2.2.2.2.2
  have hN_0 := hN.1
  have hN_1 := hN.2.1
  have hN_2 := hN.2.2.1
  have hN_3 := hN.2.2.2.1
  refine r_aload_n C dX5_spells_0 hl 0 rfl ?_
  refine r_iconst (z := 0) C dX5_spells_1 rfl ?_
  refine r_put C f_X5_209 fp_5_21 hW (mF g o ad (m_refused M) (m_now M) (m_kept M) (m_states M) (m_place M) (m_startFact M) (m_node M) (m_fact M) (m_ahead M) (m_inside M) (m_entries M) (m_caller M) (m_following M) (m_firstCaller M) (m_lastCaller M) (m_callers M) (m_known M) (m_loose M) (m_stack M) (m_high M) (m_pairs M) 0 (m_text M) (m_typed M) (m_orders M) (m_written M) (m_look M)) 0 rfl rfl rfl (Nat.le_of_ble_eq_true rfl) rfl dX5_spells_2 (fun H locs hW => ?_)
  refine r_aload_n C dX5_spells_5 hl 0 rfl ?_
  refine r_get (v := .ref (ad 14)) C f_X5_52 hW.1 0 rfl rfl dX5_spells_6 ?_
  refine r_iconst (z := 0) C dX5_spells_9 rfl ?_
  refine r_iconst (z := 4) C dX5_spells_10 rfl ?_
  refine r_iload_n C dX5_spells_11 hl 1 rfl ?_
  refine r_imul C dX5_spells_12 ?_
  refine r_iast (f := m_stack M) C hW (mF g o ad (m_refused M) (m_now M) (m_kept M) (m_states M) (m_place M) (m_startFact M) (m_node M) (m_fact M) (m_ahead M) (m_inside M) (m_entries M) (m_caller M) (m_following M) (m_firstCaller M) (m_lastCaller M) (m_callers M) (m_known M) (m_loose M) (up (m_stack M) 0 (4 * x)) (m_high M) (m_pairs M) 0 (m_text M) (m_typed M) (m_orders M) (m_written M) (m_look M)) 15 rfl (Nat.le_of_ble_eq_true rfl) (by omega) rfl dX5_spells_13 (fun H locs hW => ?_)
  refine r_aload_n C dX5_spells_14 hl 0 rfl ?_
  refine r_iconst (z := 1) C dX5_spells_15 rfl ?_
  refine r_put C f_X5_212 fp_5_19 hW (mF g o ad (m_refused M) (m_now M) (m_kept M) (m_states M) (m_place M) (m_startFact M) (m_node M) (m_fact M) (m_ahead M) (m_inside M) (m_entries M) (m_caller M) (m_following M) (m_firstCaller M) (m_lastCaller M) (m_callers M) (m_known M) (m_loose M) (up (m_stack M) 0 (4 * x)) 1 (m_pairs M) 0 (m_text M) (m_typed M) (m_orders M) (m_written M) (m_look M)) 0 rfl rfl rfl (Nat.le_of_ble_eq_true rfl) rfl dX5_spells_16 (fun H locs hW => ?_)
  have hloop19 : ∀ (k19 : Nat) (s : Sg) (hkk : spMu s < k19) (hI : spI x s) (hq : spAll M x = spRun M k19 s) (H : Heap) (locs : List Loc) (ls : Array Slot), HW g A zs.heap (mF g o ad (m_refused M) (m_now M) (m_kept M) (m_states M) (m_place M) (m_startFact M) (m_node M) (m_fact M) (m_ahead M) (m_inside M) (m_entries M) (m_caller M) (m_following M) (m_firstCaller M) (m_lastCaller M) (m_callers M) (m_known M) (m_loose M) s.1 s.2.1 s.2.2.1 s.2.2.2 (m_text M) (m_typed M) (m_orders M) (m_written M) (m_look M)) H locs → lv_has ls 5 [(0, .ref (o)), (1, .int (iI (x)))] → W zp l ze (rmm 1 21) zs zm (List.toArray [.ref (o), .int (iI (x))]) zb zt zc H locs 0 0 (MQ zb (QW g (mF g o ad (m_refused M) (m_now M) (m_kept M) (m_states M) (m_place M) (m_startFact M) (m_node M) (m_fact M) (m_ahead M) (m_inside M) (m_entries M) (m_caller M) (m_following M) (m_firstCaller M) (m_lastCaller M) (m_callers M) (m_known M) (m_loose M) (m_stack M) (m_high M) (m_pairs M) (m_told M) (m_text M) (m_typed M) (m_orders M) (m_written M) (m_look M)) (mF g o ad (m_refused M) (m_now M) (m_kept M) (m_states M) (m_place M) (m_startFact M) (m_node M) (m_fact M) (m_ahead M) (m_inside M) (m_entries M) (m_caller M) (m_following M) (m_firstCaller M) (m_lastCaller M) (m_callers M) (m_known M) (m_loose M) ((spAll M x).1) ((spAll M x).2.1) ((spAll M x).2.2.1) ((spAll M x).2.2.2) (m_text M) (m_typed M) (m_orders M) (m_written M) (m_look M)) zs.heap.size none) (List.toArray [.ref (o), .int (iI (x))]) zs 0 0 A) (F0 zm 19 ls []) := by
    intro k19
    induction k19 with
    | zero =>
      intro s hkk hI hq H locs ls hW hl
      exact absurd hkk (by have h9 := spMu_r hI hx; have h8 := hI.2.1; omega)
    | succ k19 ih19 =>
      intro s hkk hI hq H locs ls hW hl
      have hI1 := hI.1
      have hI2 := hI.2.1
      refine r_aload_n C dX5_spells_19 hl 0 rfl ?_
      refine r_get (v := .int (iI (s.2.1))) C f_X5_212 hW.1 0 rfl rfl dX5_spells_20 ?_
      refine r_if_le C 263 dX5_spells_23 (by decide) (by omega) (fun hc1 => ?_) (fun hc1 => ?_)
      · skip
        exact MW_vret C hAe hrt hlk hW dX5_spells_263 rfl (by rw [show spAll M x = s from (by rw [hq]; exact if_neg (by omega))])
      · skip
        refine r_aload_n C dX5_spells_26 hl 0 rfl ?_
        refine r_get (v := .int (iI (s.2.2.2))) C f_X5_209 hW.1 0 rfl rfl dX5_spells_27 ?_
        refine r_sipush (z := 1000) C dX5_spells_30 rfl ?_
        refine r_icmp_ge C 263 dX5_spells_33 (by decide) (by omega) (by omega) (fun hc2 => ?_) (fun hc2 => ?_)
        · skip
          exact MW_vret C hAe hrt hlk hW dX5_spells_263 rfl (by rw [show spAll M x = s from (by rw [hq]; exact if_neg (by omega))])
        · skip
          refine r_aload_n C dX5_spells_36 hl 0 rfl ?_
          refine r_dup C rfl dX5_spells_37 ?_
          refine r_get (v := .int (iI (s.2.1))) C f_X5_212 hW.1 0 rfl rfl dX5_spells_38 ?_
          refine r_iconst (z := 1) C dX5_spells_41 rfl ?_
          refine r_isub C dX5_spells_42 ?_
          refine r_put C f_X5_212 fp_5_19 hW (mF g o ad (m_refused M) (m_now M) (m_kept M) (m_states M) (m_place M) (m_startFact M) (m_node M) (m_fact M) (m_ahead M) (m_inside M) (m_entries M) (m_caller M) (m_following M) (m_firstCaller M) (m_lastCaller M) (m_callers M) (m_known M) (m_loose M) s.1 (s.2.1 - 1) s.2.2.1 s.2.2.2 (m_text M) (m_typed M) (m_orders M) (m_written M) (m_look M)) 0 rfl rfl rfl (Nat.le_of_ble_eq_true rfl) rfl dX5_spells_43 (fun H locs hW => ?_)
          have hT := hI.2.2.1 (s.2.1 - 1) (by omega) (by omega)
          refine r_aload_n C dX5_spells_46 hl 0 rfl ?_
          refine r_get (v := .ref (ad 14)) C f_X5_52 hW.1 0 rfl rfl dX5_spells_47 ?_
          refine r_aload_n C dX5_spells_50 hl 0 rfl ?_
          refine r_get (v := .int (iI (s.2.1 - 1))) C f_X5_212 hW.1 0 rfl rfl dX5_spells_51 ?_
          refine r_iald (f := s.1) C hW.1 15 rfl (Nat.le_of_ble_eq_true rfl) (by omega) dX5_spells_54 ?_
          refine r_iconst (z := 4) C dX5_spells_55 rfl ?_
          refine r_idiv C (by omega) dX5_spells_56 ?_
          refine r_istore_n C [(2, .int (iI ((s.1 (s.2.1 - 1)) / 4))), (0, .ref (o)), (1, .int (iI (x)))] dX5_spells_57 hl (by decide) rfl (fun ls hl => ?_)
          refine r_aload_n C dX5_spells_58 hl 1 rfl ?_
          refine r_get (v := .ref (ad 14)) C f_X5_52 hW.1 0 rfl rfl dX5_spells_59 ?_
          refine r_aload_n C dX5_spells_62 hl 1 rfl ?_
          refine r_get (v := .int (iI (s.2.1 - 1))) C f_X5_212 hW.1 0 rfl rfl dX5_spells_63 ?_
          refine r_iald (f := s.1) C hW.1 15 rfl (Nat.le_of_ble_eq_true rfl) (by omega) dX5_spells_66 ?_
          refine r_iconst (z := 4) C dX5_spells_67 rfl ?_
          refine r_irem C (by omega) dX5_spells_68 ?_
          refine r_istore_n C [(3, .int (iI ((s.1 (s.2.1 - 1)) % 4))), (2, .int (iI ((s.1 (s.2.1 - 1)) / 4))), (0, .ref (o)), (1, .int (iI (x)))] dX5_spells_69 hl (by decide) rfl (fun ls hl => ?_)
          refine r_aload_n C dX5_spells_70 hl 2 rfl ?_
          refine r_get (v := .ref (ad 7)) C f_X5_31 hW.1 0 rfl rfl dX5_spells_71 ?_
          refine r_iload_n C dX5_spells_74 hl 1 rfl ?_
          refine r_iald (f := m_ahead M) C hW.1 8 rfl (Nat.le_of_ble_eq_true rfl) (by omega) dX5_spells_75 ?_
          have hr3 := hM_ahead ((s.1 (s.2.1 - 1)) / 4) (by omega) (by omega)
          refine r_iconst (z := -1) C dX5_spells_76 rfl ?_
          refine r_icmp_eq C 113 dX5_spells_77 (by decide) (by omega) (by omega) (fun hc4 => ?_) (fun hc4 => ?_)
          · skip
            refine r_iconst (z := 1) C dX5_spells_113 rfl ?_
            refine r_goto C 118 dX5_spells_114 (by decide) ?_
            refine r_istore C [(4, .int (iI (1))), (3, .int (iI ((s.1 (s.2.1 - 1)) % 4))), (2, .int (iI ((s.1 (s.2.1 - 1)) / 4))), (0, .ref (o)), (1, .int (iI (x)))] dX5_spells_118 hl (by decide) rfl (fun ls hl => ?_)
            refine r_iload_n C dX5_spells_120 hl 1 rfl ?_
            refine r_iconst (z := 2) C dX5_spells_121 rfl ?_
            refine r_icmp_eq C 130 dX5_spells_122 (by decide) (by omega) (by omega) (fun hc5 => ?_) (fun hc5 => ?_)
            · skip
              refine r_aload_n C dX5_spells_130 hl 3 rfl ?_
              refine r_get (v := .ref (ad 15)) C f_X5_55 hW.1 0 rfl rfl dX5_spells_131 ?_
              refine r_aload_n C dX5_spells_134 hl 3 rfl ?_
              refine r_get (v := .int (iI (s.2.2.2))) C f_X5_209 hW.1 0 rfl rfl dX5_spells_135 ?_
              refine r_bipush (z := 10) C dX5_spells_138 rfl ?_
              refine r_aload_n C dX5_spells_140 hl 3 rfl ?_
              refine r_get (v := .ref (ad 5)) C f_X5_25 hW.1 0 rfl rfl dX5_spells_141 ?_
              refine r_iload_n C dX5_spells_144 hl 2 rfl ?_
              refine r_iald (f := m_node M) C hW.1 6 rfl (Nat.le_of_ble_eq_true rfl) (by omega) dX5_spells_145 ?_
              have hr6 := hM_node ((s.1 (s.2.1 - 1)) / 4) (by omega) (by omega)
              refine r_imul C dX5_spells_146 ?_
              refine r_aload_n C dX5_spells_147 hl 3 rfl ?_
              refine r_get (v := .ref (ad 6)) C f_X5_28 hW.1 0 rfl rfl dX5_spells_148 ?_
              refine r_iload_n C dX5_spells_151 hl 2 rfl ?_
              refine r_iald (f := m_fact M) C hW.1 7 rfl (Nat.le_of_ble_eq_true rfl) (by omega) dX5_spells_152 ?_
              have hr7 := hM_fact ((s.1 (s.2.1 - 1)) / 4) (by omega) (by omega)
              refine r_iadd C dX5_spells_153 ?_
              refine r_iast (f := s.2.2.1) C hW (mF g o ad (m_refused M) (m_now M) (m_kept M) (m_states M) (m_place M) (m_startFact M) (m_node M) (m_fact M) (m_ahead M) (m_inside M) (m_entries M) (m_caller M) (m_following M) (m_firstCaller M) (m_lastCaller M) (m_callers M) (m_known M) (m_loose M) s.1 (s.2.1 - 1) (up s.2.2.1 s.2.2.2 ((10 * (m_node M ((s.1 (s.2.1 - 1)) / 4))) + (m_fact M ((s.1 (s.2.1 - 1)) / 4)))) s.2.2.2 (m_text M) (m_typed M) (m_orders M) (m_written M) (m_look M)) 16 rfl (Nat.le_of_ble_eq_true rfl) (by omega) rfl dX5_spells_154 (fun H locs hW => ?_)
              refine r_aload_n C dX5_spells_155 hl 3 rfl ?_
              refine r_dup C rfl dX5_spells_156 ?_
              refine r_get (v := .int (iI (s.2.2.2))) C f_X5_209 hW.1 0 rfl rfl dX5_spells_157 ?_
              refine r_iconst (z := 1) C dX5_spells_160 rfl ?_
              refine r_iadd C dX5_spells_161 ?_
              refine r_put C f_X5_209 fp_5_21 hW (mF g o ad (m_refused M) (m_now M) (m_kept M) (m_states M) (m_place M) (m_startFact M) (m_node M) (m_fact M) (m_ahead M) (m_inside M) (m_entries M) (m_caller M) (m_following M) (m_firstCaller M) (m_lastCaller M) (m_callers M) (m_known M) (m_loose M) s.1 (s.2.1 - 1) (up s.2.2.1 s.2.2.2 ((10 * (m_node M ((s.1 (s.2.1 - 1)) / 4))) + (m_fact M ((s.1 (s.2.1 - 1)) / 4)))) (s.2.2.2 + 1) (m_text M) (m_typed M) (m_orders M) (m_written M) (m_look M)) 0 rfl rfl rfl (Nat.le_of_ble_eq_true rfl) rfl dX5_spells_162 (fun H locs hW => ?_)
              refine r_goto C 260 dX5_spells_165 (by decide) ?_
              refine r_goto C 19 dX5_spells_260 (by decide) ?_
              have hE : spStep M s = (s.1, s.2.1 - 1, up s.2.2.1 s.2.2.2 ((10 * (m_node M ((s.1 (s.2.1 - 1)) / 4))) + (m_fact M ((s.1 (s.2.1 - 1)) / 4))), s.2.2.2 + 1) := if_pos (show s.1 (s.2.1 - 1) % 4 = 2 ∨ (m_ahead M (s.1 (s.2.1 - 1) / 4) = -1 ∨ (s.1 (s.2.1 - 1) % 4 = 1 ∧ m_now M (14 + 2 * m_node M (s.1 (s.2.1 - 1) / 4) + 1) = 0 ∧ m_startFact M (s.1 (s.2.1 - 1) / 4) = m_fact M (s.1 (s.2.1 - 1) / 4))) by omega)
              have hS2 := spStep_ok hM hx hSW hI (by omega) (by omega)
              rw [hE] at hS2
              exact ih19 (s.1, s.2.1 - 1, up s.2.2.1 s.2.2.2 ((10 * (m_node M ((s.1 (s.2.1 - 1)) / 4))) + (m_fact M ((s.1 (s.2.1 - 1)) / 4))), s.2.2.2 + 1) (by omega) hS2.1 (by rw [hq]; exact (if_pos ⟨by omega, by omega⟩).trans (by rw [hE])) _ _ ls hW (lv_sub hl [3, 4] rfl)
            · skip
              refine r_iload C dX5_spells_125 hl 0 rfl ?_
              refine r_if_eq C 168 dX5_spells_127 (by decide) (by omega) (fun hc8 => ?_) (fun hc8 => ?_)
              · exact absurd hc8 (by omega)
              · skip
                refine r_aload_n C dX5_spells_130 hl 3 rfl ?_
                refine r_get (v := .ref (ad 15)) C f_X5_55 hW.1 0 rfl rfl dX5_spells_131 ?_
                refine r_aload_n C dX5_spells_134 hl 3 rfl ?_
                refine r_get (v := .int (iI (s.2.2.2))) C f_X5_209 hW.1 0 rfl rfl dX5_spells_135 ?_
                refine r_bipush (z := 10) C dX5_spells_138 rfl ?_
                refine r_aload_n C dX5_spells_140 hl 3 rfl ?_
                refine r_get (v := .ref (ad 5)) C f_X5_25 hW.1 0 rfl rfl dX5_spells_141 ?_
                refine r_iload_n C dX5_spells_144 hl 2 rfl ?_
                refine r_iald (f := m_node M) C hW.1 6 rfl (Nat.le_of_ble_eq_true rfl) (by omega) dX5_spells_145 ?_
                have hr9 := hM_node ((s.1 (s.2.1 - 1)) / 4) (by omega) (by omega)
                refine r_imul C dX5_spells_146 ?_
                refine r_aload_n C dX5_spells_147 hl 3 rfl ?_
                refine r_get (v := .ref (ad 6)) C f_X5_28 hW.1 0 rfl rfl dX5_spells_148 ?_
                refine r_iload_n C dX5_spells_151 hl 2 rfl ?_
                refine r_iald (f := m_fact M) C hW.1 7 rfl (Nat.le_of_ble_eq_true rfl) (by omega) dX5_spells_152 ?_
                have hr10 := hM_fact ((s.1 (s.2.1 - 1)) / 4) (by omega) (by omega)
                refine r_iadd C dX5_spells_153 ?_
                refine r_iast (f := s.2.2.1) C hW (mF g o ad (m_refused M) (m_now M) (m_kept M) (m_states M) (m_place M) (m_startFact M) (m_node M) (m_fact M) (m_ahead M) (m_inside M) (m_entries M) (m_caller M) (m_following M) (m_firstCaller M) (m_lastCaller M) (m_callers M) (m_known M) (m_loose M) s.1 (s.2.1 - 1) (up s.2.2.1 s.2.2.2 ((10 * (m_node M ((s.1 (s.2.1 - 1)) / 4))) + (m_fact M ((s.1 (s.2.1 - 1)) / 4)))) s.2.2.2 (m_text M) (m_typed M) (m_orders M) (m_written M) (m_look M)) 16 rfl (Nat.le_of_ble_eq_true rfl) (by omega) rfl dX5_spells_154 (fun H locs hW => ?_)
                refine r_aload_n C dX5_spells_155 hl 3 rfl ?_
                refine r_dup C rfl dX5_spells_156 ?_
                refine r_get (v := .int (iI (s.2.2.2))) C f_X5_209 hW.1 0 rfl rfl dX5_spells_157 ?_
                refine r_iconst (z := 1) C dX5_spells_160 rfl ?_
                refine r_iadd C dX5_spells_161 ?_
                refine r_put C f_X5_209 fp_5_21 hW (mF g o ad (m_refused M) (m_now M) (m_kept M) (m_states M) (m_place M) (m_startFact M) (m_node M) (m_fact M) (m_ahead M) (m_inside M) (m_entries M) (m_caller M) (m_following M) (m_firstCaller M) (m_lastCaller M) (m_callers M) (m_known M) (m_loose M) s.1 (s.2.1 - 1) (up s.2.2.1 s.2.2.2 ((10 * (m_node M ((s.1 (s.2.1 - 1)) / 4))) + (m_fact M ((s.1 (s.2.1 - 1)) / 4)))) (s.2.2.2 + 1) (m_text M) (m_typed M) (m_orders M) (m_written M) (m_look M)) 0 rfl rfl rfl (Nat.le_of_ble_eq_true rfl) rfl dX5_spells_162 (fun H locs hW => ?_)
                refine r_goto C 260 dX5_spells_165 (by decide) ?_
                refine r_goto C 19 dX5_spells_260 (by decide) ?_
                have hE : spStep M s = (s.1, s.2.1 - 1, up s.2.2.1 s.2.2.2 ((10 * (m_node M ((s.1 (s.2.1 - 1)) / 4))) + (m_fact M ((s.1 (s.2.1 - 1)) / 4))), s.2.2.2 + 1) := if_pos (show s.1 (s.2.1 - 1) % 4 = 2 ∨ (m_ahead M (s.1 (s.2.1 - 1) / 4) = -1 ∨ (s.1 (s.2.1 - 1) % 4 = 1 ∧ m_now M (14 + 2 * m_node M (s.1 (s.2.1 - 1) / 4) + 1) = 0 ∧ m_startFact M (s.1 (s.2.1 - 1) / 4) = m_fact M (s.1 (s.2.1 - 1) / 4))) by omega)
                have hS2 := spStep_ok hM hx hSW hI (by omega) (by omega)
                rw [hE] at hS2
                exact ih19 (s.1, s.2.1 - 1, up s.2.2.1 s.2.2.2 ((10 * (m_node M ((s.1 (s.2.1 - 1)) / 4))) + (m_fact M ((s.1 (s.2.1 - 1)) / 4))), s.2.2.2 + 1) (by omega) hS2.1 (by rw [hq]; exact (if_pos ⟨by omega, by omega⟩).trans (by rw [hE])) _ _ ls hW (lv_sub hl [3, 4] rfl)
          · skip
            refine r_iload_n C dX5_spells_80 hl 0 rfl ?_
            refine r_iconst (z := 1) C dX5_spells_81 rfl ?_
            refine r_icmp_ne C 117 dX5_spells_82 (by decide) (by omega) (by omega) (fun hc11 => ?_) (fun hc11 => ?_)
            · skip
              refine r_iconst (z := 0) C dX5_spells_117 rfl ?_
              refine r_istore C [(4, .int (iI (0))), (3, .int (iI ((s.1 (s.2.1 - 1)) % 4))), (2, .int (iI ((s.1 (s.2.1 - 1)) / 4))), (0, .ref (o)), (1, .int (iI (x)))] dX5_spells_118 hl (by decide) rfl (fun ls hl => ?_)
              refine r_iload_n C dX5_spells_120 hl 1 rfl ?_
              refine r_iconst (z := 2) C dX5_spells_121 rfl ?_
              refine r_icmp_eq C 130 dX5_spells_122 (by decide) (by omega) (by omega) (fun hc12 => ?_) (fun hc12 => ?_)
              · skip
                refine r_aload_n C dX5_spells_130 hl 3 rfl ?_
                refine r_get (v := .ref (ad 15)) C f_X5_55 hW.1 0 rfl rfl dX5_spells_131 ?_
                refine r_aload_n C dX5_spells_134 hl 3 rfl ?_
                refine r_get (v := .int (iI (s.2.2.2))) C f_X5_209 hW.1 0 rfl rfl dX5_spells_135 ?_
                refine r_bipush (z := 10) C dX5_spells_138 rfl ?_
                refine r_aload_n C dX5_spells_140 hl 3 rfl ?_
                refine r_get (v := .ref (ad 5)) C f_X5_25 hW.1 0 rfl rfl dX5_spells_141 ?_
                refine r_iload_n C dX5_spells_144 hl 2 rfl ?_
                refine r_iald (f := m_node M) C hW.1 6 rfl (Nat.le_of_ble_eq_true rfl) (by omega) dX5_spells_145 ?_
                have hr13 := hM_node ((s.1 (s.2.1 - 1)) / 4) (by omega) (by omega)
                refine r_imul C dX5_spells_146 ?_
                refine r_aload_n C dX5_spells_147 hl 3 rfl ?_
                refine r_get (v := .ref (ad 6)) C f_X5_28 hW.1 0 rfl rfl dX5_spells_148 ?_
                refine r_iload_n C dX5_spells_151 hl 2 rfl ?_
                refine r_iald (f := m_fact M) C hW.1 7 rfl (Nat.le_of_ble_eq_true rfl) (by omega) dX5_spells_152 ?_
                have hr14 := hM_fact ((s.1 (s.2.1 - 1)) / 4) (by omega) (by omega)
                refine r_iadd C dX5_spells_153 ?_
                refine r_iast (f := s.2.2.1) C hW (mF g o ad (m_refused M) (m_now M) (m_kept M) (m_states M) (m_place M) (m_startFact M) (m_node M) (m_fact M) (m_ahead M) (m_inside M) (m_entries M) (m_caller M) (m_following M) (m_firstCaller M) (m_lastCaller M) (m_callers M) (m_known M) (m_loose M) s.1 (s.2.1 - 1) (up s.2.2.1 s.2.2.2 ((10 * (m_node M ((s.1 (s.2.1 - 1)) / 4))) + (m_fact M ((s.1 (s.2.1 - 1)) / 4)))) s.2.2.2 (m_text M) (m_typed M) (m_orders M) (m_written M) (m_look M)) 16 rfl (Nat.le_of_ble_eq_true rfl) (by omega) rfl dX5_spells_154 (fun H locs hW => ?_)
                refine r_aload_n C dX5_spells_155 hl 3 rfl ?_
                refine r_dup C rfl dX5_spells_156 ?_
                refine r_get (v := .int (iI (s.2.2.2))) C f_X5_209 hW.1 0 rfl rfl dX5_spells_157 ?_
                refine r_iconst (z := 1) C dX5_spells_160 rfl ?_
                refine r_iadd C dX5_spells_161 ?_
                refine r_put C f_X5_209 fp_5_21 hW (mF g o ad (m_refused M) (m_now M) (m_kept M) (m_states M) (m_place M) (m_startFact M) (m_node M) (m_fact M) (m_ahead M) (m_inside M) (m_entries M) (m_caller M) (m_following M) (m_firstCaller M) (m_lastCaller M) (m_callers M) (m_known M) (m_loose M) s.1 (s.2.1 - 1) (up s.2.2.1 s.2.2.2 ((10 * (m_node M ((s.1 (s.2.1 - 1)) / 4))) + (m_fact M ((s.1 (s.2.1 - 1)) / 4)))) (s.2.2.2 + 1) (m_text M) (m_typed M) (m_orders M) (m_written M) (m_look M)) 0 rfl rfl rfl (Nat.le_of_ble_eq_true rfl) rfl dX5_spells_162 (fun H locs hW => ?_)
                refine r_goto C 260 dX5_spells_165 (by decide) ?_
                refine r_goto C 19 dX5_spells_260 (by decide) ?_
                have hE : spStep M s = (s.1, s.2.1 - 1, up s.2.2.1 s.2.2.2 ((10 * (m_node M ((s.1 (s.2.1 - 1)) / 4))) + (m_fact M ((s.1 (s.2.1 - 1)) / 4))), s.2.2.2 + 1) := if_pos (show s.1 (s.2.1 - 1) % 4 = 2 ∨ (m_ahead M (s.1 (s.2.1 - 1) / 4) = -1 ∨ (s.1 (s.2.1 - 1) % 4 = 1 ∧ m_now M (14 + 2 * m_node M (s.1 (s.2.1 - 1) / 4) + 1) = 0 ∧ m_startFact M (s.1 (s.2.1 - 1) / 4) = m_fact M (s.1 (s.2.1 - 1) / 4))) by omega)
                have hS2 := spStep_ok hM hx hSW hI (by omega) (by omega)
                rw [hE] at hS2
                exact ih19 (s.1, s.2.1 - 1, up s.2.2.1 s.2.2.2 ((10 * (m_node M ((s.1 (s.2.1 - 1)) / 4))) + (m_fact M ((s.1 (s.2.1 - 1)) / 4))), s.2.2.2 + 1) (by omega) hS2.1 (by rw [hq]; exact (if_pos ⟨by omega, by omega⟩).trans (by rw [hE])) _ _ ls hW (lv_sub hl [3, 4] rfl)
              · skip
                refine r_iload C dX5_spells_125 hl 0 rfl ?_
                refine r_if_eq C 168 dX5_spells_127 (by decide) (by omega) (fun hc15 => ?_) (fun hc15 => ?_)
                · skip
                  refine r_aload_n C dX5_spells_168 hl 3 rfl ?_
                  refine r_get (v := .ref (ad 14)) C f_X5_52 hW.1 0 rfl rfl dX5_spells_169 ?_
                  refine r_aload_n C dX5_spells_172 hl 3 rfl ?_
                  refine r_get (v := .int (iI (s.2.1 - 1))) C f_X5_212 hW.1 0 rfl rfl dX5_spells_173 ?_
                  refine r_iconst (z := 4) C dX5_spells_176 rfl ?_
                  refine r_iload_n C dX5_spells_177 hl 2 rfl ?_
                  refine r_imul C dX5_spells_178 ?_
                  refine r_iconst (z := 2) C dX5_spells_179 rfl ?_
                  refine r_iadd C dX5_spells_180 ?_
                  refine r_iast (f := s.1) C hW (mF g o ad (m_refused M) (m_now M) (m_kept M) (m_states M) (m_place M) (m_startFact M) (m_node M) (m_fact M) (m_ahead M) (m_inside M) (m_entries M) (m_caller M) (m_following M) (m_firstCaller M) (m_lastCaller M) (m_callers M) (m_known M) (m_loose M) (up s.1 (s.2.1 - 1) ((4 * ((s.1 (s.2.1 - 1)) / 4)) + 2)) (s.2.1 - 1) s.2.2.1 s.2.2.2 (m_text M) (m_typed M) (m_orders M) (m_written M) (m_look M)) 15 rfl (Nat.le_of_ble_eq_true rfl) (by omega) rfl dX5_spells_181 (fun H locs hW => ?_)
                  refine r_aload_n C dX5_spells_182 hl 3 rfl ?_
                  refine r_dup C rfl dX5_spells_183 ?_
                  refine r_get (v := .int (iI (s.2.1 - 1))) C f_X5_212 hW.1 0 rfl rfl dX5_spells_184 ?_
                  refine r_iconst (z := 1) C dX5_spells_187 rfl ?_
                  refine r_iadd C dX5_spells_188 ?_
                  refine r_put C f_X5_212 fp_5_19 hW (mF g o ad (m_refused M) (m_now M) (m_kept M) (m_states M) (m_place M) (m_startFact M) (m_node M) (m_fact M) (m_ahead M) (m_inside M) (m_entries M) (m_caller M) (m_following M) (m_firstCaller M) (m_lastCaller M) (m_callers M) (m_known M) (m_loose M) (up s.1 (s.2.1 - 1) ((4 * ((s.1 (s.2.1 - 1)) / 4)) + 2)) ((s.2.1 - 1) + 1) s.2.2.1 s.2.2.2 (m_text M) (m_typed M) (m_orders M) (m_written M) (m_look M)) 0 rfl rfl rfl (Nat.le_of_ble_eq_true rfl) rfl dX5_spells_189 (fun H locs hW => ?_)
                  refine r_aload_n C dX5_spells_192 hl 3 rfl ?_
                  refine r_get (v := .ref (ad 8)) C f_X5_34 hW.1 0 rfl rfl dX5_spells_193 ?_
                  refine r_iload_n C dX5_spells_196 hl 2 rfl ?_
                  refine r_iald (f := m_inside M) C hW.1 9 rfl (Nat.le_of_ble_eq_true rfl) (by omega) dX5_spells_197 ?_
                  have hr16 := hM_inside ((s.1 (s.2.1 - 1)) / 4) (by omega) (by omega)
                  refine r_iconst (z := -1) C dX5_spells_198 rfl ?_
                  refine r_icmp_eq C 231 dX5_spells_199 (by decide) (by omega) (by omega) (fun hc17 => ?_) (fun hc17 => ?_)
                  · skip
                    refine r_aload_n C dX5_spells_231 hl 3 rfl ?_
                    refine r_get (v := .ref (ad 14)) C f_X5_52 hW.1 0 rfl rfl dX5_spells_232 ?_
                    refine r_aload_n C dX5_spells_235 hl 3 rfl ?_
                    refine r_get (v := .int (iI ((s.2.1 - 1) + 1))) C f_X5_212 hW.1 0 rfl rfl dX5_spells_236 ?_
                    refine r_iconst (z := 4) C dX5_spells_239 rfl ?_
                    refine r_aload_n C dX5_spells_240 hl 3 rfl ?_
                    refine r_get (v := .ref (ad 7)) C f_X5_31 hW.1 0 rfl rfl dX5_spells_241 ?_
                    refine r_iload_n C dX5_spells_244 hl 2 rfl ?_
                    refine r_iald (f := m_ahead M) C hW.1 8 rfl (Nat.le_of_ble_eq_true rfl) (by omega) dX5_spells_245 ?_
                    have hr18 := hM_ahead ((s.1 (s.2.1 - 1)) / 4) (by omega) (by omega)
                    refine r_imul C dX5_spells_246 ?_
                    refine r_iload_n C dX5_spells_247 hl 1 rfl ?_
                    refine r_iadd C dX5_spells_248 ?_
                    refine r_iast (f := up s.1 (s.2.1 - 1) ((4 * ((s.1 (s.2.1 - 1)) / 4)) + 2)) C hW (mF g o ad (m_refused M) (m_now M) (m_kept M) (m_states M) (m_place M) (m_startFact M) (m_node M) (m_fact M) (m_ahead M) (m_inside M) (m_entries M) (m_caller M) (m_following M) (m_firstCaller M) (m_lastCaller M) (m_callers M) (m_known M) (m_loose M) (up (up s.1 (s.2.1 - 1) ((4 * ((s.1 (s.2.1 - 1)) / 4)) + 2)) ((s.2.1 - 1) + 1) ((4 * (m_ahead M ((s.1 (s.2.1 - 1)) / 4))) + ((s.1 (s.2.1 - 1)) % 4))) ((s.2.1 - 1) + 1) s.2.2.1 s.2.2.2 (m_text M) (m_typed M) (m_orders M) (m_written M) (m_look M)) 15 rfl (Nat.le_of_ble_eq_true rfl) (by omega) rfl dX5_spells_249 (fun H locs hW => ?_)
                    refine r_aload_n C dX5_spells_250 hl 3 rfl ?_
                    refine r_dup C rfl dX5_spells_251 ?_
                    refine r_get (v := .int (iI ((s.2.1 - 1) + 1))) C f_X5_212 hW.1 0 rfl rfl dX5_spells_252 ?_
                    refine r_iconst (z := 1) C dX5_spells_255 rfl ?_
                    refine r_iadd C dX5_spells_256 ?_
                    refine r_put C f_X5_212 fp_5_19 hW (mF g o ad (m_refused M) (m_now M) (m_kept M) (m_states M) (m_place M) (m_startFact M) (m_node M) (m_fact M) (m_ahead M) (m_inside M) (m_entries M) (m_caller M) (m_following M) (m_firstCaller M) (m_lastCaller M) (m_callers M) (m_known M) (m_loose M) (up (up s.1 (s.2.1 - 1) ((4 * ((s.1 (s.2.1 - 1)) / 4)) + 2)) ((s.2.1 - 1) + 1) ((4 * (m_ahead M ((s.1 (s.2.1 - 1)) / 4))) + ((s.1 (s.2.1 - 1)) % 4))) (((s.2.1 - 1) + 1) + 1) s.2.2.1 s.2.2.2 (m_text M) (m_typed M) (m_orders M) (m_written M) (m_look M)) 0 rfl rfl rfl (Nat.le_of_ble_eq_true rfl) rfl dX5_spells_257 (fun H locs hW => ?_)
                    refine r_goto C 19 dX5_spells_260 (by decide) ?_
                    have hE : spStep M s = (up (up s.1 (s.2.1 - 1) ((4 * ((s.1 (s.2.1 - 1)) / 4)) + 2)) ((s.2.1 - 1) + 1) ((4 * (m_ahead M ((s.1 (s.2.1 - 1)) / 4))) + ((s.1 (s.2.1 - 1)) % 4)), ((s.2.1 - 1) + 1) + 1, s.2.2.1, s.2.2.2) := (if_neg (show ¬ (s.1 (s.2.1 - 1) % 4 = 2 ∨ (m_ahead M (s.1 (s.2.1 - 1) / 4) = -1 ∨ (s.1 (s.2.1 - 1) % 4 = 1 ∧ m_now M (14 + 2 * m_node M (s.1 (s.2.1 - 1) / 4) + 1) = 0 ∧ m_startFact M (s.1 (s.2.1 - 1) / 4) = m_fact M (s.1 (s.2.1 - 1) / 4)))) by omega)).trans (if_pos hc17)
                    have hS2 := spStep_ok hM hx hSW hI (by omega) (by omega)
                    rw [hE] at hS2
                    exact ih19 (up (up s.1 (s.2.1 - 1) ((4 * ((s.1 (s.2.1 - 1)) / 4)) + 2)) ((s.2.1 - 1) + 1) ((4 * (m_ahead M ((s.1 (s.2.1 - 1)) / 4))) + ((s.1 (s.2.1 - 1)) % 4)), ((s.2.1 - 1) + 1) + 1, s.2.2.1, s.2.2.2) (by omega) hS2.1 (by rw [hq]; exact (if_pos ⟨by omega, by omega⟩).trans (by rw [hE])) _ _ ls hW (lv_sub hl [3, 4] rfl)
                  · skip
                    refine r_aload_n C dX5_spells_202 hl 3 rfl ?_
                    refine r_get (v := .ref (ad 14)) C f_X5_52 hW.1 0 rfl rfl dX5_spells_203 ?_
                    refine r_aload_n C dX5_spells_206 hl 3 rfl ?_
                    refine r_get (v := .int (iI ((s.2.1 - 1) + 1))) C f_X5_212 hW.1 0 rfl rfl dX5_spells_207 ?_
                    refine r_iconst (z := 4) C dX5_spells_210 rfl ?_
                    refine r_aload_n C dX5_spells_211 hl 3 rfl ?_
                    refine r_get (v := .ref (ad 8)) C f_X5_34 hW.1 0 rfl rfl dX5_spells_212 ?_
                    refine r_iload_n C dX5_spells_215 hl 2 rfl ?_
                    refine r_iald (f := m_inside M) C hW.1 9 rfl (Nat.le_of_ble_eq_true rfl) (by omega) dX5_spells_216 ?_
                    have hr19 := hM_inside ((s.1 (s.2.1 - 1)) / 4) (by omega) (by omega)
                    refine r_imul C dX5_spells_217 ?_
                    refine r_iconst (z := 1) C dX5_spells_218 rfl ?_
                    refine r_iadd C dX5_spells_219 ?_
                    refine r_iast (f := up s.1 (s.2.1 - 1) ((4 * ((s.1 (s.2.1 - 1)) / 4)) + 2)) C hW (mF g o ad (m_refused M) (m_now M) (m_kept M) (m_states M) (m_place M) (m_startFact M) (m_node M) (m_fact M) (m_ahead M) (m_inside M) (m_entries M) (m_caller M) (m_following M) (m_firstCaller M) (m_lastCaller M) (m_callers M) (m_known M) (m_loose M) (up (up s.1 (s.2.1 - 1) ((4 * ((s.1 (s.2.1 - 1)) / 4)) + 2)) ((s.2.1 - 1) + 1) ((4 * (m_inside M ((s.1 (s.2.1 - 1)) / 4))) + 1)) ((s.2.1 - 1) + 1) s.2.2.1 s.2.2.2 (m_text M) (m_typed M) (m_orders M) (m_written M) (m_look M)) 15 rfl (Nat.le_of_ble_eq_true rfl) (by omega) rfl dX5_spells_220 (fun H locs hW => ?_)
                    refine r_aload_n C dX5_spells_221 hl 3 rfl ?_
                    refine r_dup C rfl dX5_spells_222 ?_
                    refine r_get (v := .int (iI ((s.2.1 - 1) + 1))) C f_X5_212 hW.1 0 rfl rfl dX5_spells_223 ?_
                    refine r_iconst (z := 1) C dX5_spells_226 rfl ?_
                    refine r_iadd C dX5_spells_227 ?_
                    refine r_put C f_X5_212 fp_5_19 hW (mF g o ad (m_refused M) (m_now M) (m_kept M) (m_states M) (m_place M) (m_startFact M) (m_node M) (m_fact M) (m_ahead M) (m_inside M) (m_entries M) (m_caller M) (m_following M) (m_firstCaller M) (m_lastCaller M) (m_callers M) (m_known M) (m_loose M) (up (up s.1 (s.2.1 - 1) ((4 * ((s.1 (s.2.1 - 1)) / 4)) + 2)) ((s.2.1 - 1) + 1) ((4 * (m_inside M ((s.1 (s.2.1 - 1)) / 4))) + 1)) (((s.2.1 - 1) + 1) + 1) s.2.2.1 s.2.2.2 (m_text M) (m_typed M) (m_orders M) (m_written M) (m_look M)) 0 rfl rfl rfl (Nat.le_of_ble_eq_true rfl) rfl dX5_spells_228 (fun H locs hW => ?_)
                    refine r_aload_n C dX5_spells_231 hl 3 rfl ?_
                    refine r_get (v := .ref (ad 14)) C f_X5_52 hW.1 0 rfl rfl dX5_spells_232 ?_
                    refine r_aload_n C dX5_spells_235 hl 3 rfl ?_
                    refine r_get (v := .int (iI (((s.2.1 - 1) + 1) + 1))) C f_X5_212 hW.1 0 rfl rfl dX5_spells_236 ?_
                    refine r_iconst (z := 4) C dX5_spells_239 rfl ?_
                    refine r_aload_n C dX5_spells_240 hl 3 rfl ?_
                    refine r_get (v := .ref (ad 7)) C f_X5_31 hW.1 0 rfl rfl dX5_spells_241 ?_
                    refine r_iload_n C dX5_spells_244 hl 2 rfl ?_
                    refine r_iald (f := m_ahead M) C hW.1 8 rfl (Nat.le_of_ble_eq_true rfl) (by omega) dX5_spells_245 ?_
                    have hr20 := hM_ahead ((s.1 (s.2.1 - 1)) / 4) (by omega) (by omega)
                    refine r_imul C dX5_spells_246 ?_
                    refine r_iload_n C dX5_spells_247 hl 1 rfl ?_
                    refine r_iadd C dX5_spells_248 ?_
                    refine r_iast (f := up (up s.1 (s.2.1 - 1) ((4 * ((s.1 (s.2.1 - 1)) / 4)) + 2)) ((s.2.1 - 1) + 1) ((4 * (m_inside M ((s.1 (s.2.1 - 1)) / 4))) + 1)) C hW (mF g o ad (m_refused M) (m_now M) (m_kept M) (m_states M) (m_place M) (m_startFact M) (m_node M) (m_fact M) (m_ahead M) (m_inside M) (m_entries M) (m_caller M) (m_following M) (m_firstCaller M) (m_lastCaller M) (m_callers M) (m_known M) (m_loose M) (up (up (up s.1 (s.2.1 - 1) ((4 * ((s.1 (s.2.1 - 1)) / 4)) + 2)) ((s.2.1 - 1) + 1) ((4 * (m_inside M ((s.1 (s.2.1 - 1)) / 4))) + 1)) (((s.2.1 - 1) + 1) + 1) ((4 * (m_ahead M ((s.1 (s.2.1 - 1)) / 4))) + ((s.1 (s.2.1 - 1)) % 4))) (((s.2.1 - 1) + 1) + 1) s.2.2.1 s.2.2.2 (m_text M) (m_typed M) (m_orders M) (m_written M) (m_look M)) 15 rfl (Nat.le_of_ble_eq_true rfl) (by omega) rfl dX5_spells_249 (fun H locs hW => ?_)
                    refine r_aload_n C dX5_spells_250 hl 3 rfl ?_
                    refine r_dup C rfl dX5_spells_251 ?_
                    refine r_get (v := .int (iI (((s.2.1 - 1) + 1) + 1))) C f_X5_212 hW.1 0 rfl rfl dX5_spells_252 ?_
                    refine r_iconst (z := 1) C dX5_spells_255 rfl ?_
                    refine r_iadd C dX5_spells_256 ?_
                    refine r_put C f_X5_212 fp_5_19 hW (mF g o ad (m_refused M) (m_now M) (m_kept M) (m_states M) (m_place M) (m_startFact M) (m_node M) (m_fact M) (m_ahead M) (m_inside M) (m_entries M) (m_caller M) (m_following M) (m_firstCaller M) (m_lastCaller M) (m_callers M) (m_known M) (m_loose M) (up (up (up s.1 (s.2.1 - 1) ((4 * ((s.1 (s.2.1 - 1)) / 4)) + 2)) ((s.2.1 - 1) + 1) ((4 * (m_inside M ((s.1 (s.2.1 - 1)) / 4))) + 1)) (((s.2.1 - 1) + 1) + 1) ((4 * (m_ahead M ((s.1 (s.2.1 - 1)) / 4))) + ((s.1 (s.2.1 - 1)) % 4))) ((((s.2.1 - 1) + 1) + 1) + 1) s.2.2.1 s.2.2.2 (m_text M) (m_typed M) (m_orders M) (m_written M) (m_look M)) 0 rfl rfl rfl (Nat.le_of_ble_eq_true rfl) rfl dX5_spells_257 (fun H locs hW => ?_)
                    refine r_goto C 19 dX5_spells_260 (by decide) ?_
                    have hE : spStep M s = (up (up (up s.1 (s.2.1 - 1) ((4 * ((s.1 (s.2.1 - 1)) / 4)) + 2)) ((s.2.1 - 1) + 1) ((4 * (m_inside M ((s.1 (s.2.1 - 1)) / 4))) + 1)) (((s.2.1 - 1) + 1) + 1) ((4 * (m_ahead M ((s.1 (s.2.1 - 1)) / 4))) + ((s.1 (s.2.1 - 1)) % 4)), (((s.2.1 - 1) + 1) + 1) + 1, s.2.2.1, s.2.2.2) := (if_neg (show ¬ (s.1 (s.2.1 - 1) % 4 = 2 ∨ (m_ahead M (s.1 (s.2.1 - 1) / 4) = -1 ∨ (s.1 (s.2.1 - 1) % 4 = 1 ∧ m_now M (14 + 2 * m_node M (s.1 (s.2.1 - 1) / 4) + 1) = 0 ∧ m_startFact M (s.1 (s.2.1 - 1) / 4) = m_fact M (s.1 (s.2.1 - 1) / 4)))) by omega)).trans (if_neg hc17)
                    have hS2 := spStep_ok hM hx hSW hI (by omega) (by omega)
                    rw [hE] at hS2
                    exact ih19 (up (up (up s.1 (s.2.1 - 1) ((4 * ((s.1 (s.2.1 - 1)) / 4)) + 2)) ((s.2.1 - 1) + 1) ((4 * (m_inside M ((s.1 (s.2.1 - 1)) / 4))) + 1)) (((s.2.1 - 1) + 1) + 1) ((4 * (m_ahead M ((s.1 (s.2.1 - 1)) / 4))) + ((s.1 (s.2.1 - 1)) % 4)), (((s.2.1 - 1) + 1) + 1) + 1, s.2.2.1, s.2.2.2) (by omega) hS2.1 (by rw [hq]; exact (if_pos ⟨by omega, by omega⟩).trans (by rw [hE])) _ _ ls hW (lv_sub hl [3, 4] rfl)
                · exact absurd hc15 (by omega)
            · skip
              refine r_aload_n C dX5_spells_85 hl 2 rfl ?_
              refine r_aload_n C dX5_spells_86 hl 2 rfl ?_
              refine r_get (v := .ref (ad 5)) C f_X5_25 hW.1 0 rfl rfl dX5_spells_87 ?_
              refine r_iload_n C dX5_spells_90 hl 1 rfl ?_
              refine r_iald (f := m_node M) C hW.1 6 rfl (Nat.le_of_ble_eq_true rfl) (by omega) dX5_spells_91 ?_
              have hr21 := hM_node ((s.1 (s.2.1 - 1)) / 4) (by omega) (by omega)
              refine r_callR (rest := []) (r := .int (iI ((m_now M) (14 + 2 * (m_node M ((s.1 (s.2.1 - 1)) / 4)) + 1)))) C hl.1 (c_X5_sortOf l g o ad (m_refused M) (m_now M) (m_kept M) (m_states M) (m_place M) (m_startFact M) (m_node M) (m_fact M) (m_ahead M) (m_inside M) (m_entries M) (m_caller M) (m_following M) (m_firstCaller M) (m_lastCaller M) (m_callers M) (m_known M) (m_loose M) s.1 (s.2.1 - 1) s.2.2.1 s.2.2.2 (m_text M) (m_typed M) (m_orders M) (m_written M) (m_look M) (m_node M ((s.1 (s.2.1 - 1)) / 4)) (by assumption) (show 0 ≤ (m_node M ((s.1 (s.2.1 - 1)) / 4)) ∧ (m_node M ((s.1 (s.2.1 - 1)) / 4)) < 24 by omega)) v_X5_108 rfl hW.1 0 rfl rfl rfl (by decide) (by decide) (Nat.le_of_ble_eq_true rfl) dX5_spells_92 rfl ?_
              have hq22 := nSort_q ((m_now M)) (m_node M ((s.1 (s.2.1 - 1)) / 4)) (by assumption) (by omega)
              refine r_if_ne C 117 dX5_spells_95 (by decide) (by omega) (fun hc23 => ?_) (fun hc23 => ?_)
              · skip
                refine r_iconst (z := 0) C dX5_spells_117 rfl ?_
                refine r_istore C [(4, .int (iI (0))), (3, .int (iI ((s.1 (s.2.1 - 1)) % 4))), (2, .int (iI ((s.1 (s.2.1 - 1)) / 4))), (0, .ref (o)), (1, .int (iI (x)))] dX5_spells_118 hl (by decide) rfl (fun ls hl => ?_)
                refine r_iload_n C dX5_spells_120 hl 1 rfl ?_
                refine r_iconst (z := 2) C dX5_spells_121 rfl ?_
                refine r_icmp_eq C 130 dX5_spells_122 (by decide) (by omega) (by omega) (fun hc24 => ?_) (fun hc24 => ?_)
                · skip
                  refine r_aload_n C dX5_spells_130 hl 3 rfl ?_
                  refine r_get (v := .ref (ad 15)) C f_X5_55 hW.1 0 rfl rfl dX5_spells_131 ?_
                  refine r_aload_n C dX5_spells_134 hl 3 rfl ?_
                  refine r_get (v := .int (iI (s.2.2.2))) C f_X5_209 hW.1 0 rfl rfl dX5_spells_135 ?_
                  refine r_bipush (z := 10) C dX5_spells_138 rfl ?_
                  refine r_aload_n C dX5_spells_140 hl 3 rfl ?_
                  refine r_get (v := .ref (ad 5)) C f_X5_25 hW.1 0 rfl rfl dX5_spells_141 ?_
                  refine r_iload_n C dX5_spells_144 hl 2 rfl ?_
                  refine r_iald (f := m_node M) C hW.1 6 rfl (Nat.le_of_ble_eq_true rfl) (by omega) dX5_spells_145 ?_
                  have hr25 := hM_node ((s.1 (s.2.1 - 1)) / 4) (by omega) (by omega)
                  refine r_imul C dX5_spells_146 ?_
                  refine r_aload_n C dX5_spells_147 hl 3 rfl ?_
                  refine r_get (v := .ref (ad 6)) C f_X5_28 hW.1 0 rfl rfl dX5_spells_148 ?_
                  refine r_iload_n C dX5_spells_151 hl 2 rfl ?_
                  refine r_iald (f := m_fact M) C hW.1 7 rfl (Nat.le_of_ble_eq_true rfl) (by omega) dX5_spells_152 ?_
                  have hr26 := hM_fact ((s.1 (s.2.1 - 1)) / 4) (by omega) (by omega)
                  refine r_iadd C dX5_spells_153 ?_
                  refine r_iast (f := s.2.2.1) C hW (mF g o ad (m_refused M) (m_now M) (m_kept M) (m_states M) (m_place M) (m_startFact M) (m_node M) (m_fact M) (m_ahead M) (m_inside M) (m_entries M) (m_caller M) (m_following M) (m_firstCaller M) (m_lastCaller M) (m_callers M) (m_known M) (m_loose M) s.1 (s.2.1 - 1) (up s.2.2.1 s.2.2.2 ((10 * (m_node M ((s.1 (s.2.1 - 1)) / 4))) + (m_fact M ((s.1 (s.2.1 - 1)) / 4)))) s.2.2.2 (m_text M) (m_typed M) (m_orders M) (m_written M) (m_look M)) 16 rfl (Nat.le_of_ble_eq_true rfl) (by omega) rfl dX5_spells_154 (fun H locs hW => ?_)
                  refine r_aload_n C dX5_spells_155 hl 3 rfl ?_
                  refine r_dup C rfl dX5_spells_156 ?_
                  refine r_get (v := .int (iI (s.2.2.2))) C f_X5_209 hW.1 0 rfl rfl dX5_spells_157 ?_
                  refine r_iconst (z := 1) C dX5_spells_160 rfl ?_
                  refine r_iadd C dX5_spells_161 ?_
                  refine r_put C f_X5_209 fp_5_21 hW (mF g o ad (m_refused M) (m_now M) (m_kept M) (m_states M) (m_place M) (m_startFact M) (m_node M) (m_fact M) (m_ahead M) (m_inside M) (m_entries M) (m_caller M) (m_following M) (m_firstCaller M) (m_lastCaller M) (m_callers M) (m_known M) (m_loose M) s.1 (s.2.1 - 1) (up s.2.2.1 s.2.2.2 ((10 * (m_node M ((s.1 (s.2.1 - 1)) / 4))) + (m_fact M ((s.1 (s.2.1 - 1)) / 4)))) (s.2.2.2 + 1) (m_text M) (m_typed M) (m_orders M) (m_written M) (m_look M)) 0 rfl rfl rfl (Nat.le_of_ble_eq_true rfl) rfl dX5_spells_162 (fun H locs hW => ?_)
                  refine r_goto C 260 dX5_spells_165 (by decide) ?_
                  refine r_goto C 19 dX5_spells_260 (by decide) ?_
                  have hE : spStep M s = (s.1, s.2.1 - 1, up s.2.2.1 s.2.2.2 ((10 * (m_node M ((s.1 (s.2.1 - 1)) / 4))) + (m_fact M ((s.1 (s.2.1 - 1)) / 4))), s.2.2.2 + 1) := if_pos (show s.1 (s.2.1 - 1) % 4 = 2 ∨ (m_ahead M (s.1 (s.2.1 - 1) / 4) = -1 ∨ (s.1 (s.2.1 - 1) % 4 = 1 ∧ m_now M (14 + 2 * m_node M (s.1 (s.2.1 - 1) / 4) + 1) = 0 ∧ m_startFact M (s.1 (s.2.1 - 1) / 4) = m_fact M (s.1 (s.2.1 - 1) / 4))) by omega)
                  have hS2 := spStep_ok hM hx hSW hI (by omega) (by omega)
                  rw [hE] at hS2
                  exact ih19 (s.1, s.2.1 - 1, up s.2.2.1 s.2.2.2 ((10 * (m_node M ((s.1 (s.2.1 - 1)) / 4))) + (m_fact M ((s.1 (s.2.1 - 1)) / 4))), s.2.2.2 + 1) (by omega) hS2.1 (by rw [hq]; exact (if_pos ⟨by omega, by omega⟩).trans (by rw [hE])) _ _ ls hW (lv_sub hl [3, 4] rfl)
                · skip
                  refine r_iload C dX5_spells_125 hl 0 rfl ?_
                  refine r_if_eq C 168 dX5_spells_127 (by decide) (by omega) (fun hc27 => ?_) (fun hc27 => ?_)
                  · skip
                    refine r_aload_n C dX5_spells_168 hl 3 rfl ?_
                    refine r_get (v := .ref (ad 14)) C f_X5_52 hW.1 0 rfl rfl dX5_spells_169 ?_
                    refine r_aload_n C dX5_spells_172 hl 3 rfl ?_
                    refine r_get (v := .int (iI (s.2.1 - 1))) C f_X5_212 hW.1 0 rfl rfl dX5_spells_173 ?_
                    refine r_iconst (z := 4) C dX5_spells_176 rfl ?_
                    refine r_iload_n C dX5_spells_177 hl 2 rfl ?_
                    refine r_imul C dX5_spells_178 ?_
                    refine r_iconst (z := 2) C dX5_spells_179 rfl ?_
                    refine r_iadd C dX5_spells_180 ?_
                    refine r_iast (f := s.1) C hW (mF g o ad (m_refused M) (m_now M) (m_kept M) (m_states M) (m_place M) (m_startFact M) (m_node M) (m_fact M) (m_ahead M) (m_inside M) (m_entries M) (m_caller M) (m_following M) (m_firstCaller M) (m_lastCaller M) (m_callers M) (m_known M) (m_loose M) (up s.1 (s.2.1 - 1) ((4 * ((s.1 (s.2.1 - 1)) / 4)) + 2)) (s.2.1 - 1) s.2.2.1 s.2.2.2 (m_text M) (m_typed M) (m_orders M) (m_written M) (m_look M)) 15 rfl (Nat.le_of_ble_eq_true rfl) (by omega) rfl dX5_spells_181 (fun H locs hW => ?_)
                    refine r_aload_n C dX5_spells_182 hl 3 rfl ?_
                    refine r_dup C rfl dX5_spells_183 ?_
                    refine r_get (v := .int (iI (s.2.1 - 1))) C f_X5_212 hW.1 0 rfl rfl dX5_spells_184 ?_
                    refine r_iconst (z := 1) C dX5_spells_187 rfl ?_
                    refine r_iadd C dX5_spells_188 ?_
                    refine r_put C f_X5_212 fp_5_19 hW (mF g o ad (m_refused M) (m_now M) (m_kept M) (m_states M) (m_place M) (m_startFact M) (m_node M) (m_fact M) (m_ahead M) (m_inside M) (m_entries M) (m_caller M) (m_following M) (m_firstCaller M) (m_lastCaller M) (m_callers M) (m_known M) (m_loose M) (up s.1 (s.2.1 - 1) ((4 * ((s.1 (s.2.1 - 1)) / 4)) + 2)) ((s.2.1 - 1) + 1) s.2.2.1 s.2.2.2 (m_text M) (m_typed M) (m_orders M) (m_written M) (m_look M)) 0 rfl rfl rfl (Nat.le_of_ble_eq_true rfl) rfl dX5_spells_189 (fun H locs hW => ?_)
                    refine r_aload_n C dX5_spells_192 hl 3 rfl ?_
                    refine r_get (v := .ref (ad 8)) C f_X5_34 hW.1 0 rfl rfl dX5_spells_193 ?_
                    refine r_iload_n C dX5_spells_196 hl 2 rfl ?_
                    refine r_iald (f := m_inside M) C hW.1 9 rfl (Nat.le_of_ble_eq_true rfl) (by omega) dX5_spells_197 ?_
                    have hr28 := hM_inside ((s.1 (s.2.1 - 1)) / 4) (by omega) (by omega)
                    refine r_iconst (z := -1) C dX5_spells_198 rfl ?_
                    refine r_icmp_eq C 231 dX5_spells_199 (by decide) (by omega) (by omega) (fun hc29 => ?_) (fun hc29 => ?_)
                    · skip
                      refine r_aload_n C dX5_spells_231 hl 3 rfl ?_
                      refine r_get (v := .ref (ad 14)) C f_X5_52 hW.1 0 rfl rfl dX5_spells_232 ?_
                      refine r_aload_n C dX5_spells_235 hl 3 rfl ?_
                      refine r_get (v := .int (iI ((s.2.1 - 1) + 1))) C f_X5_212 hW.1 0 rfl rfl dX5_spells_236 ?_
                      refine r_iconst (z := 4) C dX5_spells_239 rfl ?_
                      refine r_aload_n C dX5_spells_240 hl 3 rfl ?_
                      refine r_get (v := .ref (ad 7)) C f_X5_31 hW.1 0 rfl rfl dX5_spells_241 ?_
                      refine r_iload_n C dX5_spells_244 hl 2 rfl ?_
                      refine r_iald (f := m_ahead M) C hW.1 8 rfl (Nat.le_of_ble_eq_true rfl) (by omega) dX5_spells_245 ?_
                      have hr30 := hM_ahead ((s.1 (s.2.1 - 1)) / 4) (by omega) (by omega)
                      refine r_imul C dX5_spells_246 ?_
                      refine r_iload_n C dX5_spells_247 hl 1 rfl ?_
                      refine r_iadd C dX5_spells_248 ?_
                      refine r_iast (f := up s.1 (s.2.1 - 1) ((4 * ((s.1 (s.2.1 - 1)) / 4)) + 2)) C hW (mF g o ad (m_refused M) (m_now M) (m_kept M) (m_states M) (m_place M) (m_startFact M) (m_node M) (m_fact M) (m_ahead M) (m_inside M) (m_entries M) (m_caller M) (m_following M) (m_firstCaller M) (m_lastCaller M) (m_callers M) (m_known M) (m_loose M) (up (up s.1 (s.2.1 - 1) ((4 * ((s.1 (s.2.1 - 1)) / 4)) + 2)) ((s.2.1 - 1) + 1) ((4 * (m_ahead M ((s.1 (s.2.1 - 1)) / 4))) + ((s.1 (s.2.1 - 1)) % 4))) ((s.2.1 - 1) + 1) s.2.2.1 s.2.2.2 (m_text M) (m_typed M) (m_orders M) (m_written M) (m_look M)) 15 rfl (Nat.le_of_ble_eq_true rfl) (by omega) rfl dX5_spells_249 (fun H locs hW => ?_)
                      refine r_aload_n C dX5_spells_250 hl 3 rfl ?_
                      refine r_dup C rfl dX5_spells_251 ?_
                      refine r_get (v := .int (iI ((s.2.1 - 1) + 1))) C f_X5_212 hW.1 0 rfl rfl dX5_spells_252 ?_
                      refine r_iconst (z := 1) C dX5_spells_255 rfl ?_
                      refine r_iadd C dX5_spells_256 ?_
                      refine r_put C f_X5_212 fp_5_19 hW (mF g o ad (m_refused M) (m_now M) (m_kept M) (m_states M) (m_place M) (m_startFact M) (m_node M) (m_fact M) (m_ahead M) (m_inside M) (m_entries M) (m_caller M) (m_following M) (m_firstCaller M) (m_lastCaller M) (m_callers M) (m_known M) (m_loose M) (up (up s.1 (s.2.1 - 1) ((4 * ((s.1 (s.2.1 - 1)) / 4)) + 2)) ((s.2.1 - 1) + 1) ((4 * (m_ahead M ((s.1 (s.2.1 - 1)) / 4))) + ((s.1 (s.2.1 - 1)) % 4))) (((s.2.1 - 1) + 1) + 1) s.2.2.1 s.2.2.2 (m_text M) (m_typed M) (m_orders M) (m_written M) (m_look M)) 0 rfl rfl rfl (Nat.le_of_ble_eq_true rfl) rfl dX5_spells_257 (fun H locs hW => ?_)
                      refine r_goto C 19 dX5_spells_260 (by decide) ?_
                      have hE : spStep M s = (up (up s.1 (s.2.1 - 1) ((4 * ((s.1 (s.2.1 - 1)) / 4)) + 2)) ((s.2.1 - 1) + 1) ((4 * (m_ahead M ((s.1 (s.2.1 - 1)) / 4))) + ((s.1 (s.2.1 - 1)) % 4)), ((s.2.1 - 1) + 1) + 1, s.2.2.1, s.2.2.2) := (if_neg (show ¬ (s.1 (s.2.1 - 1) % 4 = 2 ∨ (m_ahead M (s.1 (s.2.1 - 1) / 4) = -1 ∨ (s.1 (s.2.1 - 1) % 4 = 1 ∧ m_now M (14 + 2 * m_node M (s.1 (s.2.1 - 1) / 4) + 1) = 0 ∧ m_startFact M (s.1 (s.2.1 - 1) / 4) = m_fact M (s.1 (s.2.1 - 1) / 4)))) by omega)).trans (if_pos hc29)
                      have hS2 := spStep_ok hM hx hSW hI (by omega) (by omega)
                      rw [hE] at hS2
                      exact ih19 (up (up s.1 (s.2.1 - 1) ((4 * ((s.1 (s.2.1 - 1)) / 4)) + 2)) ((s.2.1 - 1) + 1) ((4 * (m_ahead M ((s.1 (s.2.1 - 1)) / 4))) + ((s.1 (s.2.1 - 1)) % 4)), ((s.2.1 - 1) + 1) + 1, s.2.2.1, s.2.2.2) (by omega) hS2.1 (by rw [hq]; exact (if_pos ⟨by omega, by omega⟩).trans (by rw [hE])) _ _ ls hW (lv_sub hl [3, 4] rfl)
                    · skip
                      refine r_aload_n C dX5_spells_202 hl 3 rfl ?_
                      refine r_get (v := .ref (ad 14)) C f_X5_52 hW.1 0 rfl rfl dX5_spells_203 ?_
                      refine r_aload_n C dX5_spells_206 hl 3 rfl ?_
                      refine r_get (v := .int (iI ((s.2.1 - 1) + 1))) C f_X5_212 hW.1 0 rfl rfl dX5_spells_207 ?_
                      refine r_iconst (z := 4) C dX5_spells_210 rfl ?_
                      refine r_aload_n C dX5_spells_211 hl 3 rfl ?_
                      refine r_get (v := .ref (ad 8)) C f_X5_34 hW.1 0 rfl rfl dX5_spells_212 ?_
                      refine r_iload_n C dX5_spells_215 hl 2 rfl ?_
                      refine r_iald (f := m_inside M) C hW.1 9 rfl (Nat.le_of_ble_eq_true rfl) (by omega) dX5_spells_216 ?_
                      have hr31 := hM_inside ((s.1 (s.2.1 - 1)) / 4) (by omega) (by omega)
                      refine r_imul C dX5_spells_217 ?_
                      refine r_iconst (z := 1) C dX5_spells_218 rfl ?_
                      refine r_iadd C dX5_spells_219 ?_
                      refine r_iast (f := up s.1 (s.2.1 - 1) ((4 * ((s.1 (s.2.1 - 1)) / 4)) + 2)) C hW (mF g o ad (m_refused M) (m_now M) (m_kept M) (m_states M) (m_place M) (m_startFact M) (m_node M) (m_fact M) (m_ahead M) (m_inside M) (m_entries M) (m_caller M) (m_following M) (m_firstCaller M) (m_lastCaller M) (m_callers M) (m_known M) (m_loose M) (up (up s.1 (s.2.1 - 1) ((4 * ((s.1 (s.2.1 - 1)) / 4)) + 2)) ((s.2.1 - 1) + 1) ((4 * (m_inside M ((s.1 (s.2.1 - 1)) / 4))) + 1)) ((s.2.1 - 1) + 1) s.2.2.1 s.2.2.2 (m_text M) (m_typed M) (m_orders M) (m_written M) (m_look M)) 15 rfl (Nat.le_of_ble_eq_true rfl) (by omega) rfl dX5_spells_220 (fun H locs hW => ?_)
                      refine r_aload_n C dX5_spells_221 hl 3 rfl ?_
                      refine r_dup C rfl dX5_spells_222 ?_
                      refine r_get (v := .int (iI ((s.2.1 - 1) + 1))) C f_X5_212 hW.1 0 rfl rfl dX5_spells_223 ?_
                      refine r_iconst (z := 1) C dX5_spells_226 rfl ?_
                      refine r_iadd C dX5_spells_227 ?_
                      refine r_put C f_X5_212 fp_5_19 hW (mF g o ad (m_refused M) (m_now M) (m_kept M) (m_states M) (m_place M) (m_startFact M) (m_node M) (m_fact M) (m_ahead M) (m_inside M) (m_entries M) (m_caller M) (m_following M) (m_firstCaller M) (m_lastCaller M) (m_callers M) (m_known M) (m_loose M) (up (up s.1 (s.2.1 - 1) ((4 * ((s.1 (s.2.1 - 1)) / 4)) + 2)) ((s.2.1 - 1) + 1) ((4 * (m_inside M ((s.1 (s.2.1 - 1)) / 4))) + 1)) (((s.2.1 - 1) + 1) + 1) s.2.2.1 s.2.2.2 (m_text M) (m_typed M) (m_orders M) (m_written M) (m_look M)) 0 rfl rfl rfl (Nat.le_of_ble_eq_true rfl) rfl dX5_spells_228 (fun H locs hW => ?_)
                      refine r_aload_n C dX5_spells_231 hl 3 rfl ?_
                      refine r_get (v := .ref (ad 14)) C f_X5_52 hW.1 0 rfl rfl dX5_spells_232 ?_
                      refine r_aload_n C dX5_spells_235 hl 3 rfl ?_
                      refine r_get (v := .int (iI (((s.2.1 - 1) + 1) + 1))) C f_X5_212 hW.1 0 rfl rfl dX5_spells_236 ?_
                      refine r_iconst (z := 4) C dX5_spells_239 rfl ?_
                      refine r_aload_n C dX5_spells_240 hl 3 rfl ?_
                      refine r_get (v := .ref (ad 7)) C f_X5_31 hW.1 0 rfl rfl dX5_spells_241 ?_
                      refine r_iload_n C dX5_spells_244 hl 2 rfl ?_
                      refine r_iald (f := m_ahead M) C hW.1 8 rfl (Nat.le_of_ble_eq_true rfl) (by omega) dX5_spells_245 ?_
                      have hr32 := hM_ahead ((s.1 (s.2.1 - 1)) / 4) (by omega) (by omega)
                      refine r_imul C dX5_spells_246 ?_
                      refine r_iload_n C dX5_spells_247 hl 1 rfl ?_
                      refine r_iadd C dX5_spells_248 ?_
                      refine r_iast (f := up (up s.1 (s.2.1 - 1) ((4 * ((s.1 (s.2.1 - 1)) / 4)) + 2)) ((s.2.1 - 1) + 1) ((4 * (m_inside M ((s.1 (s.2.1 - 1)) / 4))) + 1)) C hW (mF g o ad (m_refused M) (m_now M) (m_kept M) (m_states M) (m_place M) (m_startFact M) (m_node M) (m_fact M) (m_ahead M) (m_inside M) (m_entries M) (m_caller M) (m_following M) (m_firstCaller M) (m_lastCaller M) (m_callers M) (m_known M) (m_loose M) (up (up (up s.1 (s.2.1 - 1) ((4 * ((s.1 (s.2.1 - 1)) / 4)) + 2)) ((s.2.1 - 1) + 1) ((4 * (m_inside M ((s.1 (s.2.1 - 1)) / 4))) + 1)) (((s.2.1 - 1) + 1) + 1) ((4 * (m_ahead M ((s.1 (s.2.1 - 1)) / 4))) + ((s.1 (s.2.1 - 1)) % 4))) (((s.2.1 - 1) + 1) + 1) s.2.2.1 s.2.2.2 (m_text M) (m_typed M) (m_orders M) (m_written M) (m_look M)) 15 rfl (Nat.le_of_ble_eq_true rfl) (by omega) rfl dX5_spells_249 (fun H locs hW => ?_)
                      refine r_aload_n C dX5_spells_250 hl 3 rfl ?_
                      refine r_dup C rfl dX5_spells_251 ?_
                      refine r_get (v := .int (iI (((s.2.1 - 1) + 1) + 1))) C f_X5_212 hW.1 0 rfl rfl dX5_spells_252 ?_
                      refine r_iconst (z := 1) C dX5_spells_255 rfl ?_
                      refine r_iadd C dX5_spells_256 ?_
                      refine r_put C f_X5_212 fp_5_19 hW (mF g o ad (m_refused M) (m_now M) (m_kept M) (m_states M) (m_place M) (m_startFact M) (m_node M) (m_fact M) (m_ahead M) (m_inside M) (m_entries M) (m_caller M) (m_following M) (m_firstCaller M) (m_lastCaller M) (m_callers M) (m_known M) (m_loose M) (up (up (up s.1 (s.2.1 - 1) ((4 * ((s.1 (s.2.1 - 1)) / 4)) + 2)) ((s.2.1 - 1) + 1) ((4 * (m_inside M ((s.1 (s.2.1 - 1)) / 4))) + 1)) (((s.2.1 - 1) + 1) + 1) ((4 * (m_ahead M ((s.1 (s.2.1 - 1)) / 4))) + ((s.1 (s.2.1 - 1)) % 4))) ((((s.2.1 - 1) + 1) + 1) + 1) s.2.2.1 s.2.2.2 (m_text M) (m_typed M) (m_orders M) (m_written M) (m_look M)) 0 rfl rfl rfl (Nat.le_of_ble_eq_true rfl) rfl dX5_spells_257 (fun H locs hW => ?_)
                      refine r_goto C 19 dX5_spells_260 (by decide) ?_
                      have hE : spStep M s = (up (up (up s.1 (s.2.1 - 1) ((4 * ((s.1 (s.2.1 - 1)) / 4)) + 2)) ((s.2.1 - 1) + 1) ((4 * (m_inside M ((s.1 (s.2.1 - 1)) / 4))) + 1)) (((s.2.1 - 1) + 1) + 1) ((4 * (m_ahead M ((s.1 (s.2.1 - 1)) / 4))) + ((s.1 (s.2.1 - 1)) % 4)), (((s.2.1 - 1) + 1) + 1) + 1, s.2.2.1, s.2.2.2) := (if_neg (show ¬ (s.1 (s.2.1 - 1) % 4 = 2 ∨ (m_ahead M (s.1 (s.2.1 - 1) / 4) = -1 ∨ (s.1 (s.2.1 - 1) % 4 = 1 ∧ m_now M (14 + 2 * m_node M (s.1 (s.2.1 - 1) / 4) + 1) = 0 ∧ m_startFact M (s.1 (s.2.1 - 1) / 4) = m_fact M (s.1 (s.2.1 - 1) / 4)))) by omega)).trans (if_neg hc29)
                      have hS2 := spStep_ok hM hx hSW hI (by omega) (by omega)
                      rw [hE] at hS2
                      exact ih19 (up (up (up s.1 (s.2.1 - 1) ((4 * ((s.1 (s.2.1 - 1)) / 4)) + 2)) ((s.2.1 - 1) + 1) ((4 * (m_inside M ((s.1 (s.2.1 - 1)) / 4))) + 1)) (((s.2.1 - 1) + 1) + 1) ((4 * (m_ahead M ((s.1 (s.2.1 - 1)) / 4))) + ((s.1 (s.2.1 - 1)) % 4)), (((s.2.1 - 1) + 1) + 1) + 1, s.2.2.1, s.2.2.2) (by omega) hS2.1 (by rw [hq]; exact (if_pos ⟨by omega, by omega⟩).trans (by rw [hE])) _ _ ls hW (lv_sub hl [3, 4] rfl)
                  · exact absurd hc27 (by omega)
              · skip
                refine r_aload_n C dX5_spells_98 hl 2 rfl ?_
                refine r_get (v := .ref (ad 4)) C f_X5_22 hW.1 0 rfl rfl dX5_spells_99 ?_
                refine r_iload_n C dX5_spells_102 hl 1 rfl ?_
                refine r_iald (f := m_startFact M) C hW.1 5 rfl (Nat.le_of_ble_eq_true rfl) (by omega) dX5_spells_103 ?_
                have hr33 := hM_startFact ((s.1 (s.2.1 - 1)) / 4) (by omega) (by omega)
                refine r_aload_n C dX5_spells_104 hl 2 rfl ?_
                refine r_get (v := .ref (ad 6)) C f_X5_28 hW.1 0 rfl rfl dX5_spells_105 ?_
                refine r_iload_n C dX5_spells_108 hl 1 rfl ?_
                refine r_iald (f := m_fact M) C hW.1 7 rfl (Nat.le_of_ble_eq_true rfl) (by omega) dX5_spells_109 ?_
                have hr34 := hM_fact ((s.1 (s.2.1 - 1)) / 4) (by omega) (by omega)
                refine r_icmp_ne C 117 dX5_spells_110 (by decide) (by omega) (by omega) (fun hc35 => ?_) (fun hc35 => ?_)
                · skip
                  refine r_iconst (z := 0) C dX5_spells_117 rfl ?_
                  refine r_istore C [(4, .int (iI (0))), (3, .int (iI ((s.1 (s.2.1 - 1)) % 4))), (2, .int (iI ((s.1 (s.2.1 - 1)) / 4))), (0, .ref (o)), (1, .int (iI (x)))] dX5_spells_118 hl (by decide) rfl (fun ls hl => ?_)
                  refine r_iload_n C dX5_spells_120 hl 1 rfl ?_
                  refine r_iconst (z := 2) C dX5_spells_121 rfl ?_
                  refine r_icmp_eq C 130 dX5_spells_122 (by decide) (by omega) (by omega) (fun hc36 => ?_) (fun hc36 => ?_)
                  · skip
                    refine r_aload_n C dX5_spells_130 hl 3 rfl ?_
                    refine r_get (v := .ref (ad 15)) C f_X5_55 hW.1 0 rfl rfl dX5_spells_131 ?_
                    refine r_aload_n C dX5_spells_134 hl 3 rfl ?_
                    refine r_get (v := .int (iI (s.2.2.2))) C f_X5_209 hW.1 0 rfl rfl dX5_spells_135 ?_
                    refine r_bipush (z := 10) C dX5_spells_138 rfl ?_
                    refine r_aload_n C dX5_spells_140 hl 3 rfl ?_
                    refine r_get (v := .ref (ad 5)) C f_X5_25 hW.1 0 rfl rfl dX5_spells_141 ?_
                    refine r_iload_n C dX5_spells_144 hl 2 rfl ?_
                    refine r_iald (f := m_node M) C hW.1 6 rfl (Nat.le_of_ble_eq_true rfl) (by omega) dX5_spells_145 ?_
                    have hr37 := hM_node ((s.1 (s.2.1 - 1)) / 4) (by omega) (by omega)
                    refine r_imul C dX5_spells_146 ?_
                    refine r_aload_n C dX5_spells_147 hl 3 rfl ?_
                    refine r_get (v := .ref (ad 6)) C f_X5_28 hW.1 0 rfl rfl dX5_spells_148 ?_
                    refine r_iload_n C dX5_spells_151 hl 2 rfl ?_
                    refine r_iald (f := m_fact M) C hW.1 7 rfl (Nat.le_of_ble_eq_true rfl) (by omega) dX5_spells_152 ?_
                    have hr38 := hM_fact ((s.1 (s.2.1 - 1)) / 4) (by omega) (by omega)
                    refine r_iadd C dX5_spells_153 ?_
                    refine r_iast (f := s.2.2.1) C hW (mF g o ad (m_refused M) (m_now M) (m_kept M) (m_states M) (m_place M) (m_startFact M) (m_node M) (m_fact M) (m_ahead M) (m_inside M) (m_entries M) (m_caller M) (m_following M) (m_firstCaller M) (m_lastCaller M) (m_callers M) (m_known M) (m_loose M) s.1 (s.2.1 - 1) (up s.2.2.1 s.2.2.2 ((10 * (m_node M ((s.1 (s.2.1 - 1)) / 4))) + (m_fact M ((s.1 (s.2.1 - 1)) / 4)))) s.2.2.2 (m_text M) (m_typed M) (m_orders M) (m_written M) (m_look M)) 16 rfl (Nat.le_of_ble_eq_true rfl) (by omega) rfl dX5_spells_154 (fun H locs hW => ?_)
                    refine r_aload_n C dX5_spells_155 hl 3 rfl ?_
                    refine r_dup C rfl dX5_spells_156 ?_
                    refine r_get (v := .int (iI (s.2.2.2))) C f_X5_209 hW.1 0 rfl rfl dX5_spells_157 ?_
                    refine r_iconst (z := 1) C dX5_spells_160 rfl ?_
                    refine r_iadd C dX5_spells_161 ?_
                    refine r_put C f_X5_209 fp_5_21 hW (mF g o ad (m_refused M) (m_now M) (m_kept M) (m_states M) (m_place M) (m_startFact M) (m_node M) (m_fact M) (m_ahead M) (m_inside M) (m_entries M) (m_caller M) (m_following M) (m_firstCaller M) (m_lastCaller M) (m_callers M) (m_known M) (m_loose M) s.1 (s.2.1 - 1) (up s.2.2.1 s.2.2.2 ((10 * (m_node M ((s.1 (s.2.1 - 1)) / 4))) + (m_fact M ((s.1 (s.2.1 - 1)) / 4)))) (s.2.2.2 + 1) (m_text M) (m_typed M) (m_orders M) (m_written M) (m_look M)) 0 rfl rfl rfl (Nat.le_of_ble_eq_true rfl) rfl dX5_spells_162 (fun H locs hW => ?_)
                    refine r_goto C 260 dX5_spells_165 (by decide) ?_
                    refine r_goto C 19 dX5_spells_260 (by decide) ?_
                    have hE : spStep M s = (s.1, s.2.1 - 1, up s.2.2.1 s.2.2.2 ((10 * (m_node M ((s.1 (s.2.1 - 1)) / 4))) + (m_fact M ((s.1 (s.2.1 - 1)) / 4))), s.2.2.2 + 1) := if_pos (show s.1 (s.2.1 - 1) % 4 = 2 ∨ (m_ahead M (s.1 (s.2.1 - 1) / 4) = -1 ∨ (s.1 (s.2.1 - 1) % 4 = 1 ∧ m_now M (14 + 2 * m_node M (s.1 (s.2.1 - 1) / 4) + 1) = 0 ∧ m_startFact M (s.1 (s.2.1 - 1) / 4) = m_fact M (s.1 (s.2.1 - 1) / 4))) by omega)
                    have hS2 := spStep_ok hM hx hSW hI (by omega) (by omega)
                    rw [hE] at hS2
                    exact ih19 (s.1, s.2.1 - 1, up s.2.2.1 s.2.2.2 ((10 * (m_node M ((s.1 (s.2.1 - 1)) / 4))) + (m_fact M ((s.1 (s.2.1 - 1)) / 4))), s.2.2.2 + 1) (by omega) hS2.1 (by rw [hq]; exact (if_pos ⟨by omega, by omega⟩).trans (by rw [hE])) _ _ ls hW (lv_sub hl [3, 4] rfl)
                  · skip
                    refine r_iload C dX5_spells_125 hl 0 rfl ?_
                    refine r_if_eq C 168 dX5_spells_127 (by decide) (by omega) (fun hc39 => ?_) (fun hc39 => ?_)
                    · skip
                      refine r_aload_n C dX5_spells_168 hl 3 rfl ?_
                      refine r_get (v := .ref (ad 14)) C f_X5_52 hW.1 0 rfl rfl dX5_spells_169 ?_
                      refine r_aload_n C dX5_spells_172 hl 3 rfl ?_
                      refine r_get (v := .int (iI (s.2.1 - 1))) C f_X5_212 hW.1 0 rfl rfl dX5_spells_173 ?_
                      refine r_iconst (z := 4) C dX5_spells_176 rfl ?_
                      refine r_iload_n C dX5_spells_177 hl 2 rfl ?_
                      refine r_imul C dX5_spells_178 ?_
                      refine r_iconst (z := 2) C dX5_spells_179 rfl ?_
                      refine r_iadd C dX5_spells_180 ?_
                      refine r_iast (f := s.1) C hW (mF g o ad (m_refused M) (m_now M) (m_kept M) (m_states M) (m_place M) (m_startFact M) (m_node M) (m_fact M) (m_ahead M) (m_inside M) (m_entries M) (m_caller M) (m_following M) (m_firstCaller M) (m_lastCaller M) (m_callers M) (m_known M) (m_loose M) (up s.1 (s.2.1 - 1) ((4 * ((s.1 (s.2.1 - 1)) / 4)) + 2)) (s.2.1 - 1) s.2.2.1 s.2.2.2 (m_text M) (m_typed M) (m_orders M) (m_written M) (m_look M)) 15 rfl (Nat.le_of_ble_eq_true rfl) (by omega) rfl dX5_spells_181 (fun H locs hW => ?_)
                      refine r_aload_n C dX5_spells_182 hl 3 rfl ?_
                      refine r_dup C rfl dX5_spells_183 ?_
                      refine r_get (v := .int (iI (s.2.1 - 1))) C f_X5_212 hW.1 0 rfl rfl dX5_spells_184 ?_
                      refine r_iconst (z := 1) C dX5_spells_187 rfl ?_
                      refine r_iadd C dX5_spells_188 ?_
                      refine r_put C f_X5_212 fp_5_19 hW (mF g o ad (m_refused M) (m_now M) (m_kept M) (m_states M) (m_place M) (m_startFact M) (m_node M) (m_fact M) (m_ahead M) (m_inside M) (m_entries M) (m_caller M) (m_following M) (m_firstCaller M) (m_lastCaller M) (m_callers M) (m_known M) (m_loose M) (up s.1 (s.2.1 - 1) ((4 * ((s.1 (s.2.1 - 1)) / 4)) + 2)) ((s.2.1 - 1) + 1) s.2.2.1 s.2.2.2 (m_text M) (m_typed M) (m_orders M) (m_written M) (m_look M)) 0 rfl rfl rfl (Nat.le_of_ble_eq_true rfl) rfl dX5_spells_189 (fun H locs hW => ?_)
                      refine r_aload_n C dX5_spells_192 hl 3 rfl ?_
                      refine r_get (v := .ref (ad 8)) C f_X5_34 hW.1 0 rfl rfl dX5_spells_193 ?_
                      refine r_iload_n C dX5_spells_196 hl 2 rfl ?_
                      refine r_iald (f := m_inside M) C hW.1 9 rfl (Nat.le_of_ble_eq_true rfl) (by omega) dX5_spells_197 ?_
                      have hr40 := hM_inside ((s.1 (s.2.1 - 1)) / 4) (by omega) (by omega)
                      refine r_iconst (z := -1) C dX5_spells_198 rfl ?_
                      refine r_icmp_eq C 231 dX5_spells_199 (by decide) (by omega) (by omega) (fun hc41 => ?_) (fun hc41 => ?_)
                      · skip
                        refine r_aload_n C dX5_spells_231 hl 3 rfl ?_
                        refine r_get (v := .ref (ad 14)) C f_X5_52 hW.1 0 rfl rfl dX5_spells_232 ?_
                        refine r_aload_n C dX5_spells_235 hl 3 rfl ?_
                        refine r_get (v := .int (iI ((s.2.1 - 1) + 1))) C f_X5_212 hW.1 0 rfl rfl dX5_spells_236 ?_
                        refine r_iconst (z := 4) C dX5_spells_239 rfl ?_
                        refine r_aload_n C dX5_spells_240 hl 3 rfl ?_
                        refine r_get (v := .ref (ad 7)) C f_X5_31 hW.1 0 rfl rfl dX5_spells_241 ?_
                        refine r_iload_n C dX5_spells_244 hl 2 rfl ?_
                        refine r_iald (f := m_ahead M) C hW.1 8 rfl (Nat.le_of_ble_eq_true rfl) (by omega) dX5_spells_245 ?_
                        have hr42 := hM_ahead ((s.1 (s.2.1 - 1)) / 4) (by omega) (by omega)
                        refine r_imul C dX5_spells_246 ?_
                        refine r_iload_n C dX5_spells_247 hl 1 rfl ?_
                        refine r_iadd C dX5_spells_248 ?_
                        refine r_iast (f := up s.1 (s.2.1 - 1) ((4 * ((s.1 (s.2.1 - 1)) / 4)) + 2)) C hW (mF g o ad (m_refused M) (m_now M) (m_kept M) (m_states M) (m_place M) (m_startFact M) (m_node M) (m_fact M) (m_ahead M) (m_inside M) (m_entries M) (m_caller M) (m_following M) (m_firstCaller M) (m_lastCaller M) (m_callers M) (m_known M) (m_loose M) (up (up s.1 (s.2.1 - 1) ((4 * ((s.1 (s.2.1 - 1)) / 4)) + 2)) ((s.2.1 - 1) + 1) ((4 * (m_ahead M ((s.1 (s.2.1 - 1)) / 4))) + ((s.1 (s.2.1 - 1)) % 4))) ((s.2.1 - 1) + 1) s.2.2.1 s.2.2.2 (m_text M) (m_typed M) (m_orders M) (m_written M) (m_look M)) 15 rfl (Nat.le_of_ble_eq_true rfl) (by omega) rfl dX5_spells_249 (fun H locs hW => ?_)
                        refine r_aload_n C dX5_spells_250 hl 3 rfl ?_
                        refine r_dup C rfl dX5_spells_251 ?_
                        refine r_get (v := .int (iI ((s.2.1 - 1) + 1))) C f_X5_212 hW.1 0 rfl rfl dX5_spells_252 ?_
                        refine r_iconst (z := 1) C dX5_spells_255 rfl ?_
                        refine r_iadd C dX5_spells_256 ?_
                        refine r_put C f_X5_212 fp_5_19 hW (mF g o ad (m_refused M) (m_now M) (m_kept M) (m_states M) (m_place M) (m_startFact M) (m_node M) (m_fact M) (m_ahead M) (m_inside M) (m_entries M) (m_caller M) (m_following M) (m_firstCaller M) (m_lastCaller M) (m_callers M) (m_known M) (m_loose M) (up (up s.1 (s.2.1 - 1) ((4 * ((s.1 (s.2.1 - 1)) / 4)) + 2)) ((s.2.1 - 1) + 1) ((4 * (m_ahead M ((s.1 (s.2.1 - 1)) / 4))) + ((s.1 (s.2.1 - 1)) % 4))) (((s.2.1 - 1) + 1) + 1) s.2.2.1 s.2.2.2 (m_text M) (m_typed M) (m_orders M) (m_written M) (m_look M)) 0 rfl rfl rfl (Nat.le_of_ble_eq_true rfl) rfl dX5_spells_257 (fun H locs hW => ?_)
                        refine r_goto C 19 dX5_spells_260 (by decide) ?_
                        have hE : spStep M s = (up (up s.1 (s.2.1 - 1) ((4 * ((s.1 (s.2.1 - 1)) / 4)) + 2)) ((s.2.1 - 1) + 1) ((4 * (m_ahead M ((s.1 (s.2.1 - 1)) / 4))) + ((s.1 (s.2.1 - 1)) % 4)), ((s.2.1 - 1) + 1) + 1, s.2.2.1, s.2.2.2) := (if_neg (show ¬ (s.1 (s.2.1 - 1) % 4 = 2 ∨ (m_ahead M (s.1 (s.2.1 - 1) / 4) = -1 ∨ (s.1 (s.2.1 - 1) % 4 = 1 ∧ m_now M (14 + 2 * m_node M (s.1 (s.2.1 - 1) / 4) + 1) = 0 ∧ m_startFact M (s.1 (s.2.1 - 1) / 4) = m_fact M (s.1 (s.2.1 - 1) / 4)))) by omega)).trans (if_pos hc41)
                        have hS2 := spStep_ok hM hx hSW hI (by omega) (by omega)
                        rw [hE] at hS2
                        exact ih19 (up (up s.1 (s.2.1 - 1) ((4 * ((s.1 (s.2.1 - 1)) / 4)) + 2)) ((s.2.1 - 1) + 1) ((4 * (m_ahead M ((s.1 (s.2.1 - 1)) / 4))) + ((s.1 (s.2.1 - 1)) % 4)), ((s.2.1 - 1) + 1) + 1, s.2.2.1, s.2.2.2) (by omega) hS2.1 (by rw [hq]; exact (if_pos ⟨by omega, by omega⟩).trans (by rw [hE])) _ _ ls hW (lv_sub hl [3, 4] rfl)
                      · skip
                        refine r_aload_n C dX5_spells_202 hl 3 rfl ?_
                        refine r_get (v := .ref (ad 14)) C f_X5_52 hW.1 0 rfl rfl dX5_spells_203 ?_
                        refine r_aload_n C dX5_spells_206 hl 3 rfl ?_
                        refine r_get (v := .int (iI ((s.2.1 - 1) + 1))) C f_X5_212 hW.1 0 rfl rfl dX5_spells_207 ?_
                        refine r_iconst (z := 4) C dX5_spells_210 rfl ?_
                        refine r_aload_n C dX5_spells_211 hl 3 rfl ?_
                        refine r_get (v := .ref (ad 8)) C f_X5_34 hW.1 0 rfl rfl dX5_spells_212 ?_
                        refine r_iload_n C dX5_spells_215 hl 2 rfl ?_
                        refine r_iald (f := m_inside M) C hW.1 9 rfl (Nat.le_of_ble_eq_true rfl) (by omega) dX5_spells_216 ?_
                        have hr43 := hM_inside ((s.1 (s.2.1 - 1)) / 4) (by omega) (by omega)
                        refine r_imul C dX5_spells_217 ?_
                        refine r_iconst (z := 1) C dX5_spells_218 rfl ?_
                        refine r_iadd C dX5_spells_219 ?_
                        refine r_iast (f := up s.1 (s.2.1 - 1) ((4 * ((s.1 (s.2.1 - 1)) / 4)) + 2)) C hW (mF g o ad (m_refused M) (m_now M) (m_kept M) (m_states M) (m_place M) (m_startFact M) (m_node M) (m_fact M) (m_ahead M) (m_inside M) (m_entries M) (m_caller M) (m_following M) (m_firstCaller M) (m_lastCaller M) (m_callers M) (m_known M) (m_loose M) (up (up s.1 (s.2.1 - 1) ((4 * ((s.1 (s.2.1 - 1)) / 4)) + 2)) ((s.2.1 - 1) + 1) ((4 * (m_inside M ((s.1 (s.2.1 - 1)) / 4))) + 1)) ((s.2.1 - 1) + 1) s.2.2.1 s.2.2.2 (m_text M) (m_typed M) (m_orders M) (m_written M) (m_look M)) 15 rfl (Nat.le_of_ble_eq_true rfl) (by omega) rfl dX5_spells_220 (fun H locs hW => ?_)
                        refine r_aload_n C dX5_spells_221 hl 3 rfl ?_
                        refine r_dup C rfl dX5_spells_222 ?_
                        refine r_get (v := .int (iI ((s.2.1 - 1) + 1))) C f_X5_212 hW.1 0 rfl rfl dX5_spells_223 ?_
                        refine r_iconst (z := 1) C dX5_spells_226 rfl ?_
                        refine r_iadd C dX5_spells_227 ?_
                        refine r_put C f_X5_212 fp_5_19 hW (mF g o ad (m_refused M) (m_now M) (m_kept M) (m_states M) (m_place M) (m_startFact M) (m_node M) (m_fact M) (m_ahead M) (m_inside M) (m_entries M) (m_caller M) (m_following M) (m_firstCaller M) (m_lastCaller M) (m_callers M) (m_known M) (m_loose M) (up (up s.1 (s.2.1 - 1) ((4 * ((s.1 (s.2.1 - 1)) / 4)) + 2)) ((s.2.1 - 1) + 1) ((4 * (m_inside M ((s.1 (s.2.1 - 1)) / 4))) + 1)) (((s.2.1 - 1) + 1) + 1) s.2.2.1 s.2.2.2 (m_text M) (m_typed M) (m_orders M) (m_written M) (m_look M)) 0 rfl rfl rfl (Nat.le_of_ble_eq_true rfl) rfl dX5_spells_228 (fun H locs hW => ?_)
                        refine r_aload_n C dX5_spells_231 hl 3 rfl ?_
                        refine r_get (v := .ref (ad 14)) C f_X5_52 hW.1 0 rfl rfl dX5_spells_232 ?_
                        refine r_aload_n C dX5_spells_235 hl 3 rfl ?_
                        refine r_get (v := .int (iI (((s.2.1 - 1) + 1) + 1))) C f_X5_212 hW.1 0 rfl rfl dX5_spells_236 ?_
                        refine r_iconst (z := 4) C dX5_spells_239 rfl ?_
                        refine r_aload_n C dX5_spells_240 hl 3 rfl ?_
                        refine r_get (v := .ref (ad 7)) C f_X5_31 hW.1 0 rfl rfl dX5_spells_241 ?_
                        refine r_iload_n C dX5_spells_244 hl 2 rfl ?_
                        refine r_iald (f := m_ahead M) C hW.1 8 rfl (Nat.le_of_ble_eq_true rfl) (by omega) dX5_spells_245 ?_
                        have hr44 := hM_ahead ((s.1 (s.2.1 - 1)) / 4) (by omega) (by omega)
                        refine r_imul C dX5_spells_246 ?_
                        refine r_iload_n C dX5_spells_247 hl 1 rfl ?_
                        refine r_iadd C dX5_spells_248 ?_
                        refine r_iast (f := up (up s.1 (s.2.1 - 1) ((4 * ((s.1 (s.2.1 - 1)) / 4)) + 2)) ((s.2.1 - 1) + 1) ((4 * (m_inside M ((s.1 (s.2.1 - 1)) / 4))) + 1)) C hW (mF g o ad (m_refused M) (m_now M) (m_kept M) (m_states M) (m_place M) (m_startFact M) (m_node M) (m_fact M) (m_ahead M) (m_inside M) (m_entries M) (m_caller M) (m_following M) (m_firstCaller M) (m_lastCaller M) (m_callers M) (m_known M) (m_loose M) (up (up (up s.1 (s.2.1 - 1) ((4 * ((s.1 (s.2.1 - 1)) / 4)) + 2)) ((s.2.1 - 1) + 1) ((4 * (m_inside M ((s.1 (s.2.1 - 1)) / 4))) + 1)) (((s.2.1 - 1) + 1) + 1) ((4 * (m_ahead M ((s.1 (s.2.1 - 1)) / 4))) + ((s.1 (s.2.1 - 1)) % 4))) (((s.2.1 - 1) + 1) + 1) s.2.2.1 s.2.2.2 (m_text M) (m_typed M) (m_orders M) (m_written M) (m_look M)) 15 rfl (Nat.le_of_ble_eq_true rfl) (by omega) rfl dX5_spells_249 (fun H locs hW => ?_)
                        refine r_aload_n C dX5_spells_250 hl 3 rfl ?_
                        refine r_dup C rfl dX5_spells_251 ?_
                        refine r_get (v := .int (iI (((s.2.1 - 1) + 1) + 1))) C f_X5_212 hW.1 0 rfl rfl dX5_spells_252 ?_
                        refine r_iconst (z := 1) C dX5_spells_255 rfl ?_
                        refine r_iadd C dX5_spells_256 ?_
                        refine r_put C f_X5_212 fp_5_19 hW (mF g o ad (m_refused M) (m_now M) (m_kept M) (m_states M) (m_place M) (m_startFact M) (m_node M) (m_fact M) (m_ahead M) (m_inside M) (m_entries M) (m_caller M) (m_following M) (m_firstCaller M) (m_lastCaller M) (m_callers M) (m_known M) (m_loose M) (up (up (up s.1 (s.2.1 - 1) ((4 * ((s.1 (s.2.1 - 1)) / 4)) + 2)) ((s.2.1 - 1) + 1) ((4 * (m_inside M ((s.1 (s.2.1 - 1)) / 4))) + 1)) (((s.2.1 - 1) + 1) + 1) ((4 * (m_ahead M ((s.1 (s.2.1 - 1)) / 4))) + ((s.1 (s.2.1 - 1)) % 4))) ((((s.2.1 - 1) + 1) + 1) + 1) s.2.2.1 s.2.2.2 (m_text M) (m_typed M) (m_orders M) (m_written M) (m_look M)) 0 rfl rfl rfl (Nat.le_of_ble_eq_true rfl) rfl dX5_spells_257 (fun H locs hW => ?_)
                        refine r_goto C 19 dX5_spells_260 (by decide) ?_
                        have hE : spStep M s = (up (up (up s.1 (s.2.1 - 1) ((4 * ((s.1 (s.2.1 - 1)) / 4)) + 2)) ((s.2.1 - 1) + 1) ((4 * (m_inside M ((s.1 (s.2.1 - 1)) / 4))) + 1)) (((s.2.1 - 1) + 1) + 1) ((4 * (m_ahead M ((s.1 (s.2.1 - 1)) / 4))) + ((s.1 (s.2.1 - 1)) % 4)), (((s.2.1 - 1) + 1) + 1) + 1, s.2.2.1, s.2.2.2) := (if_neg (show ¬ (s.1 (s.2.1 - 1) % 4 = 2 ∨ (m_ahead M (s.1 (s.2.1 - 1) / 4) = -1 ∨ (s.1 (s.2.1 - 1) % 4 = 1 ∧ m_now M (14 + 2 * m_node M (s.1 (s.2.1 - 1) / 4) + 1) = 0 ∧ m_startFact M (s.1 (s.2.1 - 1) / 4) = m_fact M (s.1 (s.2.1 - 1) / 4)))) by omega)).trans (if_neg hc41)
                        have hS2 := spStep_ok hM hx hSW hI (by omega) (by omega)
                        rw [hE] at hS2
                        exact ih19 (up (up (up s.1 (s.2.1 - 1) ((4 * ((s.1 (s.2.1 - 1)) / 4)) + 2)) ((s.2.1 - 1) + 1) ((4 * (m_inside M ((s.1 (s.2.1 - 1)) / 4))) + 1)) (((s.2.1 - 1) + 1) + 1) ((4 * (m_ahead M ((s.1 (s.2.1 - 1)) / 4))) + ((s.1 (s.2.1 - 1)) % 4)), (((s.2.1 - 1) + 1) + 1) + 1, s.2.2.1, s.2.2.2) (by omega) hS2.1 (by rw [hq]; exact (if_pos ⟨by omega, by omega⟩).trans (by rw [hE])) _ _ ls hW (lv_sub hl [3, 4] rfl)
                    · exact absurd hc39 (by omega)
                · skip
                  refine r_iconst (z := 1) C dX5_spells_113 rfl ?_
                  refine r_goto C 118 dX5_spells_114 (by decide) ?_
                  refine r_istore C [(4, .int (iI (1))), (3, .int (iI ((s.1 (s.2.1 - 1)) % 4))), (2, .int (iI ((s.1 (s.2.1 - 1)) / 4))), (0, .ref (o)), (1, .int (iI (x)))] dX5_spells_118 hl (by decide) rfl (fun ls hl => ?_)
                  refine r_iload_n C dX5_spells_120 hl 1 rfl ?_
                  refine r_iconst (z := 2) C dX5_spells_121 rfl ?_
                  refine r_icmp_eq C 130 dX5_spells_122 (by decide) (by omega) (by omega) (fun hc45 => ?_) (fun hc45 => ?_)
                  · skip
                    refine r_aload_n C dX5_spells_130 hl 3 rfl ?_
                    refine r_get (v := .ref (ad 15)) C f_X5_55 hW.1 0 rfl rfl dX5_spells_131 ?_
                    refine r_aload_n C dX5_spells_134 hl 3 rfl ?_
                    refine r_get (v := .int (iI (s.2.2.2))) C f_X5_209 hW.1 0 rfl rfl dX5_spells_135 ?_
                    refine r_bipush (z := 10) C dX5_spells_138 rfl ?_
                    refine r_aload_n C dX5_spells_140 hl 3 rfl ?_
                    refine r_get (v := .ref (ad 5)) C f_X5_25 hW.1 0 rfl rfl dX5_spells_141 ?_
                    refine r_iload_n C dX5_spells_144 hl 2 rfl ?_
                    refine r_iald (f := m_node M) C hW.1 6 rfl (Nat.le_of_ble_eq_true rfl) (by omega) dX5_spells_145 ?_
                    have hr46 := hM_node ((s.1 (s.2.1 - 1)) / 4) (by omega) (by omega)
                    refine r_imul C dX5_spells_146 ?_
                    refine r_aload_n C dX5_spells_147 hl 3 rfl ?_
                    refine r_get (v := .ref (ad 6)) C f_X5_28 hW.1 0 rfl rfl dX5_spells_148 ?_
                    refine r_iload_n C dX5_spells_151 hl 2 rfl ?_
                    refine r_iald (f := m_fact M) C hW.1 7 rfl (Nat.le_of_ble_eq_true rfl) (by omega) dX5_spells_152 ?_
                    have hr47 := hM_fact ((s.1 (s.2.1 - 1)) / 4) (by omega) (by omega)
                    refine r_iadd C dX5_spells_153 ?_
                    refine r_iast (f := s.2.2.1) C hW (mF g o ad (m_refused M) (m_now M) (m_kept M) (m_states M) (m_place M) (m_startFact M) (m_node M) (m_fact M) (m_ahead M) (m_inside M) (m_entries M) (m_caller M) (m_following M) (m_firstCaller M) (m_lastCaller M) (m_callers M) (m_known M) (m_loose M) s.1 (s.2.1 - 1) (up s.2.2.1 s.2.2.2 ((10 * (m_node M ((s.1 (s.2.1 - 1)) / 4))) + (m_fact M ((s.1 (s.2.1 - 1)) / 4)))) s.2.2.2 (m_text M) (m_typed M) (m_orders M) (m_written M) (m_look M)) 16 rfl (Nat.le_of_ble_eq_true rfl) (by omega) rfl dX5_spells_154 (fun H locs hW => ?_)
                    refine r_aload_n C dX5_spells_155 hl 3 rfl ?_
                    refine r_dup C rfl dX5_spells_156 ?_
                    refine r_get (v := .int (iI (s.2.2.2))) C f_X5_209 hW.1 0 rfl rfl dX5_spells_157 ?_
                    refine r_iconst (z := 1) C dX5_spells_160 rfl ?_
                    refine r_iadd C dX5_spells_161 ?_
                    refine r_put C f_X5_209 fp_5_21 hW (mF g o ad (m_refused M) (m_now M) (m_kept M) (m_states M) (m_place M) (m_startFact M) (m_node M) (m_fact M) (m_ahead M) (m_inside M) (m_entries M) (m_caller M) (m_following M) (m_firstCaller M) (m_lastCaller M) (m_callers M) (m_known M) (m_loose M) s.1 (s.2.1 - 1) (up s.2.2.1 s.2.2.2 ((10 * (m_node M ((s.1 (s.2.1 - 1)) / 4))) + (m_fact M ((s.1 (s.2.1 - 1)) / 4)))) (s.2.2.2 + 1) (m_text M) (m_typed M) (m_orders M) (m_written M) (m_look M)) 0 rfl rfl rfl (Nat.le_of_ble_eq_true rfl) rfl dX5_spells_162 (fun H locs hW => ?_)
                    refine r_goto C 260 dX5_spells_165 (by decide) ?_
                    refine r_goto C 19 dX5_spells_260 (by decide) ?_
                    have hE : spStep M s = (s.1, s.2.1 - 1, up s.2.2.1 s.2.2.2 ((10 * (m_node M ((s.1 (s.2.1 - 1)) / 4))) + (m_fact M ((s.1 (s.2.1 - 1)) / 4))), s.2.2.2 + 1) := if_pos (show s.1 (s.2.1 - 1) % 4 = 2 ∨ (m_ahead M (s.1 (s.2.1 - 1) / 4) = -1 ∨ (s.1 (s.2.1 - 1) % 4 = 1 ∧ m_now M (14 + 2 * m_node M (s.1 (s.2.1 - 1) / 4) + 1) = 0 ∧ m_startFact M (s.1 (s.2.1 - 1) / 4) = m_fact M (s.1 (s.2.1 - 1) / 4))) by omega)
                    have hS2 := spStep_ok hM hx hSW hI (by omega) (by omega)
                    rw [hE] at hS2
                    exact ih19 (s.1, s.2.1 - 1, up s.2.2.1 s.2.2.2 ((10 * (m_node M ((s.1 (s.2.1 - 1)) / 4))) + (m_fact M ((s.1 (s.2.1 - 1)) / 4))), s.2.2.2 + 1) (by omega) hS2.1 (by rw [hq]; exact (if_pos ⟨by omega, by omega⟩).trans (by rw [hE])) _ _ ls hW (lv_sub hl [3, 4] rfl)
                  · skip
                    refine r_iload C dX5_spells_125 hl 0 rfl ?_
                    refine r_if_eq C 168 dX5_spells_127 (by decide) (by omega) (fun hc48 => ?_) (fun hc48 => ?_)
                    · exact absurd hc48 (by omega)
                    · skip
                      refine r_aload_n C dX5_spells_130 hl 3 rfl ?_
                      refine r_get (v := .ref (ad 15)) C f_X5_55 hW.1 0 rfl rfl dX5_spells_131 ?_
                      refine r_aload_n C dX5_spells_134 hl 3 rfl ?_
                      refine r_get (v := .int (iI (s.2.2.2))) C f_X5_209 hW.1 0 rfl rfl dX5_spells_135 ?_
                      refine r_bipush (z := 10) C dX5_spells_138 rfl ?_
                      refine r_aload_n C dX5_spells_140 hl 3 rfl ?_
                      refine r_get (v := .ref (ad 5)) C f_X5_25 hW.1 0 rfl rfl dX5_spells_141 ?_
                      refine r_iload_n C dX5_spells_144 hl 2 rfl ?_
                      refine r_iald (f := m_node M) C hW.1 6 rfl (Nat.le_of_ble_eq_true rfl) (by omega) dX5_spells_145 ?_
                      have hr49 := hM_node ((s.1 (s.2.1 - 1)) / 4) (by omega) (by omega)
                      refine r_imul C dX5_spells_146 ?_
                      refine r_aload_n C dX5_spells_147 hl 3 rfl ?_
                      refine r_get (v := .ref (ad 6)) C f_X5_28 hW.1 0 rfl rfl dX5_spells_148 ?_
                      refine r_iload_n C dX5_spells_151 hl 2 rfl ?_
                      refine r_iald (f := m_fact M) C hW.1 7 rfl (Nat.le_of_ble_eq_true rfl) (by omega) dX5_spells_152 ?_
                      have hr50 := hM_fact ((s.1 (s.2.1 - 1)) / 4) (by omega) (by omega)
                      refine r_iadd C dX5_spells_153 ?_
                      refine r_iast (f := s.2.2.1) C hW (mF g o ad (m_refused M) (m_now M) (m_kept M) (m_states M) (m_place M) (m_startFact M) (m_node M) (m_fact M) (m_ahead M) (m_inside M) (m_entries M) (m_caller M) (m_following M) (m_firstCaller M) (m_lastCaller M) (m_callers M) (m_known M) (m_loose M) s.1 (s.2.1 - 1) (up s.2.2.1 s.2.2.2 ((10 * (m_node M ((s.1 (s.2.1 - 1)) / 4))) + (m_fact M ((s.1 (s.2.1 - 1)) / 4)))) s.2.2.2 (m_text M) (m_typed M) (m_orders M) (m_written M) (m_look M)) 16 rfl (Nat.le_of_ble_eq_true rfl) (by omega) rfl dX5_spells_154 (fun H locs hW => ?_)
                      refine r_aload_n C dX5_spells_155 hl 3 rfl ?_
                      refine r_dup C rfl dX5_spells_156 ?_
                      refine r_get (v := .int (iI (s.2.2.2))) C f_X5_209 hW.1 0 rfl rfl dX5_spells_157 ?_
                      refine r_iconst (z := 1) C dX5_spells_160 rfl ?_
                      refine r_iadd C dX5_spells_161 ?_
                      refine r_put C f_X5_209 fp_5_21 hW (mF g o ad (m_refused M) (m_now M) (m_kept M) (m_states M) (m_place M) (m_startFact M) (m_node M) (m_fact M) (m_ahead M) (m_inside M) (m_entries M) (m_caller M) (m_following M) (m_firstCaller M) (m_lastCaller M) (m_callers M) (m_known M) (m_loose M) s.1 (s.2.1 - 1) (up s.2.2.1 s.2.2.2 ((10 * (m_node M ((s.1 (s.2.1 - 1)) / 4))) + (m_fact M ((s.1 (s.2.1 - 1)) / 4)))) (s.2.2.2 + 1) (m_text M) (m_typed M) (m_orders M) (m_written M) (m_look M)) 0 rfl rfl rfl (Nat.le_of_ble_eq_true rfl) rfl dX5_spells_162 (fun H locs hW => ?_)
                      refine r_goto C 260 dX5_spells_165 (by decide) ?_
                      refine r_goto C 19 dX5_spells_260 (by decide) ?_
                      have hE : spStep M s = (s.1, s.2.1 - 1, up s.2.2.1 s.2.2.2 ((10 * (m_node M ((s.1 (s.2.1 - 1)) / 4))) + (m_fact M ((s.1 (s.2.1 - 1)) / 4))), s.2.2.2 + 1) := if_pos (show s.1 (s.2.1 - 1) % 4 = 2 ∨ (m_ahead M (s.1 (s.2.1 - 1) / 4) = -1 ∨ (s.1 (s.2.1 - 1) % 4 = 1 ∧ m_now M (14 + 2 * m_node M (s.1 (s.2.1 - 1) / 4) + 1) = 0 ∧ m_startFact M (s.1 (s.2.1 - 1) / 4) = m_fact M (s.1 (s.2.1 - 1) / 4))) by omega)
                      have hS2 := spStep_ok hM hx hSW hI (by omega) (by omega)
                      rw [hE] at hS2
                      exact ih19 (s.1, s.2.1 - 1, up s.2.2.1 s.2.2.2 ((10 * (m_node M ((s.1 (s.2.1 - 1)) / 4))) + (m_fact M ((s.1 (s.2.1 - 1)) / 4))), s.2.2.2 + 1) (by omega) hS2.1 (by rw [hq]; exact (if_pos ⟨by omega, by omega⟩).trans (by rw [hE])) _ _ ls hW (lv_sub hl [3, 4] rfl)
  have hmu : (1000 - (0 : Int)) * 1537 ≤ spMu (up (m_stack M) 0 (4 * x), 1, m_pairs M, 0) ∧ spMu (up (m_stack M) 0 (4 * x), 1, m_pairs M, 0) ≤ (1000 - (0 : Int)) * 1537 + 1535 := spMu_r (spI_0 hM hx) hx
  exact hloop19 1600000 (up (m_stack M) 0 (4 * x), 1, m_pairs M, 0) (by omega) (spI_0 hM hx) rfl _ _ ls hW (lv_sub hl [0, 1] rfl)
theorem c_X5_spellsK (l : Launch) (g : GG) (o : Nat) (ad : Nat → Nat) (M : Md) (x : Int) (K : Md) (hM : mOk M) (hN : nOk (m_now M)) (hx : 0 ≤ x ∧ x < 1536) (hSW : spW M x) (hK : mSp x M = K) : MW l g yX5_spells cX5_spells 5 none 1 21 [.ref (o), .int (iI (x))] (mF g o ad (m_refused M) (m_now M) (m_kept M) (m_states M) (m_place M) (m_startFact M) (m_node M) (m_fact M) (m_ahead M) (m_inside M) (m_entries M) (m_caller M) (m_following M) (m_firstCaller M) (m_lastCaller M) (m_callers M) (m_known M) (m_loose M) (m_stack M) (m_high M) (m_pairs M) (m_told M) (m_text M) (m_typed M) (m_orders M) (m_written M) (m_look M)) (mF g o ad (m_refused K) (m_now K) (m_kept K) (m_states K) (m_place K) (m_startFact K) (m_node K) (m_fact K) (m_ahead K) (m_inside K) (m_entries K) (m_caller K) (m_following K) (m_firstCaller K) (m_lastCaller K) (m_callers K) (m_known K) (m_loose K) (m_stack K) (m_high K) (m_pairs K) (m_told K) (m_text K) (m_typed K) (m_orders K) (m_written K) (m_look K)) none := by
  subst hK
  exact c_X5_spells l g o ad M x hM hN hx hSW
set_option maxHeartbeats 4000000 in
set_option maxRecDepth 100000 in
theorem c_X5_witness (l : Launch) (g : GG) (o : Nat) (ad : Nat → Nat) (M : Md) (n f i : Int) (hM : mOk M) (hN : nOk (m_now M)) (hWf : nWf (m_now M)) (hA0 : ∀ i : Int, 0 ≤ i → i < m_entries (mKn M) → (-1 ≤ m_ahead (mKn M) i ∧ m_ahead (mKn M) i < i) ∧ (-1 ≤ m_inside (mKn M) i ∧ m_inside (mKn M) i < i)) (hP0 : ∀ k : Int, 0 ≤ k → k < 1536 → m_place (mKn M) k ≤ m_entries (mKn M)) (h_n : rg n) (h_f : rg f) (h_i : rg i) : MW l g yX5_witness cX5_witness 7 (some .int) 7 168 [.ref (o), .int (iI (n)), .int (iI (f)), .int (iI (i))] (mF g o ad (m_refused M) (m_now M) (m_kept M) (m_states M) (m_place M) (m_startFact M) (m_node M) (m_fact M) (m_ahead M) (m_inside M) (m_entries M) (m_caller M) (m_following M) (m_firstCaller M) (m_lastCaller M) (m_callers M) (m_known M) (m_loose M) (m_stack M) (m_high M) (m_pairs M) (m_told M) (m_text M) (m_typed M) (m_orders M) (m_written M) (m_look M)) (mF g o ad (m_refused ((mWitness n f i M).2)) (m_now ((mWitness n f i M).2)) (m_kept ((mWitness n f i M).2)) (m_states ((mWitness n f i M).2)) (m_place ((mWitness n f i M).2)) (m_startFact ((mWitness n f i M).2)) (m_node ((mWitness n f i M).2)) (m_fact ((mWitness n f i M).2)) (m_ahead ((mWitness n f i M).2)) (m_inside ((mWitness n f i M).2)) (m_entries ((mWitness n f i M).2)) (m_caller ((mWitness n f i M).2)) (m_following ((mWitness n f i M).2)) (m_firstCaller ((mWitness n f i M).2)) (m_lastCaller ((mWitness n f i M).2)) (m_callers ((mWitness n f i M).2)) (m_known ((mWitness n f i M).2)) (m_loose ((mWitness n f i M).2)) (m_stack ((mWitness n f i M).2)) (m_high ((mWitness n f i M).2)) (m_pairs ((mWitness n f i M).2)) (m_told ((mWitness n f i M).2)) (m_text ((mWitness n f i M).2)) (m_typed ((mWitness n f i M).2)) (m_orders ((mWitness n f i M).2)) (m_written ((mWitness n f i M).2)) (m_look ((mWitness n f i M).2))) (some (.int (iI ((mWitness n f i M).1)))) := by
  refine MW_start (by decide) (Nat.le_of_ble_eq_true rfl) ?_
  intro zp ze zs zm zb zt zc A hAe C hrt hlk hW ls hl
  have hA : ∀ q, zs.heap.size ≤ q → A q := fun q h => by rw [hAe]; exact Or.inr h
  have hl : lv_has ls 7 [(0, .ref (o)), (1, .int (iI (n))), (2, .int (iI (f))), (3, .int (iI (i)))] := hl
  have hM_refused : ∀ j : Int, 0 ≤ j → j < 3 → 0 ≤ m_refused M j ∧ m_refused M j ≤ 1000000 := hM.1
  have hM_states : 0 ≤ m_states M ∧ m_states M ≤ 5 := hM.2.1
  have hM_place : ∀ j : Int, 0 ≤ j → j < 1536 → 0 ≤ m_place M j ∧ m_place M j ≤ 1536 := hM.2.2.1
  have hM_startFact : ∀ j : Int, 0 ≤ j → j < 1536 → 0 ≤ m_startFact M j ∧ m_startFact M j ≤ 7 := hM.2.2.2.1
  have hM_node : ∀ j : Int, 0 ≤ j → j < 1536 → 0 ≤ m_node M j ∧ m_node M j ≤ 23 := hM.2.2.2.2.1
  have hM_fact : ∀ j : Int, 0 ≤ j → j < 1536 → 0 ≤ m_fact M j ∧ m_fact M j ≤ 7 := hM.2.2.2.2.2.1
  have hM_ahead : ∀ j : Int, 0 ≤ j → j < 1536 → -1 ≤ m_ahead M j ∧ m_ahead M j ≤ 1535 := hM.2.2.2.2.2.2.1
  have hM_inside : ∀ j : Int, 0 ≤ j → j < 1536 → -1 ≤ m_inside M j ∧ m_inside M j ≤ 1535 := hM.2.2.2.2.2.2.2.1
  have hM_entries : 0 ≤ m_entries M ∧ m_entries M ≤ 1536 := hM.2.2.2.2.2.2.2.2.1
  have hM_caller : ∀ j : Int, 0 ≤ j → j < 16384 → 0 ≤ m_caller M j ∧ m_caller M j ≤ 49151 := hM.2.2.2.2.2.2.2.2.2.1
  have hM_following : ∀ j : Int, 0 ≤ j → j < 16384 → -1 ≤ m_following M j ∧ m_following M j ≤ 16383 := hM.2.2.2.2.2.2.2.2.2.2.1
  have hM_firstCaller : ∀ j : Int, 0 ≤ j → j < 40 → -1 ≤ m_firstCaller M j ∧ m_firstCaller M j ≤ 16383 := hM.2.2.2.2.2.2.2.2.2.2.2.1
  have hM_lastCaller : ∀ j : Int, 0 ≤ j → j < 40 → -1 ≤ m_lastCaller M j ∧ m_lastCaller M j ≤ 16383 := hM.2.2.2.2.2.2.2.2.2.2.2.2.1
  have hM_callers : 0 ≤ m_callers M ∧ m_callers M ≤ 16384 := hM.2.2.2.2.2.2.2.2.2.2.2.2.2.1
  have hM_known : 0 ≤ m_known M ∧ m_known M ≤ 1 := hM.2.2.2.2.2.2.2.2.2.2.2.2.2.2.1
  have hM_loose : ∀ j : Int, 0 ≤ j → j < 24 → 0 ≤ m_loose M j ∧ m_loose M j ≤ 255 := hM.2.2.2.2.2.2.2.2.2.2.2.2.2.2.2.1
  have hM_stack : ∀ j : Int, 0 ≤ j → j < 8000 → 0 ≤ m_stack M j ∧ m_stack M j ≤ 6143 := hM.2.2.2.2.2.2.2.2.2.2.2.2.2.2.2.2.1
  have hM_high : 0 ≤ m_high M ∧ m_high M ≤ 8000 := hM.2.2.2.2.2.2.2.2.2.2.2.2.2.2.2.2.2.1
  have hM_pairs : ∀ j : Int, 0 ≤ j → j < 1000 → 0 ≤ m_pairs M j ∧ m_pairs M j ≤ 239 := hM.2.2.2.2.2.2.2.2.2.2.2.2.2.2.2.2.2.2.1
  have hM_told : 0 ≤ m_told M ∧ m_told M ≤ 1000 := hM.2.2.2.2.2.2.2.2.2.2.2.2.2.2.2.2.2.2.2.1
  have hM_text : ∀ j : Int, 0 ≤ j → j < 120 → 0 ≤ m_text M j ∧ m_text M j ≤ 127 := hM.2.2.2.2.2.2.2.2.2.2.2.2.2.2.2.2.2.2.2.2.1
  have hM_typed : 0 ≤ m_typed M ∧ m_typed M ≤ 120 := hM.2.2.2.2.2.2.2.2.2.2.2.2.2.2.2.2.2.2.2.2.2.1
  have hM_orders : ∀ j : Int, 0 ≤ j → j < 300 → 0 ≤ m_orders M j ∧ m_orders M j ≤ 999 := hM.2.2.2.2.2.2.2.2.2.2.2.2.2.2.2.2.2.2.2.2.2.2.1
  have hM_written : 0 ≤ m_written M ∧ m_written M ≤ 60 := hM.2.2.2.2.2.2.2.2.2.2.2.2.2.2.2.2.2.2.2.2.2.2.2.1
  have hM_look : 0 ≤ m_look M ∧ m_look M ≤ 120 := hM.2.2.2.2.2.2.2.2.2.2.2.2.2.2.2.2.2.2.2.2.2.2.2.2
  have hN_0 := hN.1
  have hN_1 := hN.2.1
  have hN_2 := hN.2.2.1
  have hN_3 := hN.2.2.2.1
  refine opq (mKn M) (fun K hK => ?_)
  have hAh := hA0
  have hP := hP0
  rw [hK] at hAh hP
  have hKk := mKn_ok hM hN hWf
  rw [hK] at hKk
  have hKo : mOk K := hKk.1
  have hKn : m_now K = m_now M := hKk.2
  have hKN : nOk (m_now K) := by rw [hKn]; exact hN
  have hKN_0 := hKN.1
  have hKN_1 := hKN.2.1
  have hKN_2 := hKN.2.2.1
  have hKN_3 := hKN.2.2.2.1
  have hKo_refused : ∀ j : Int, 0 ≤ j → j < 3 → 0 ≤ m_refused K j ∧ m_refused K j ≤ 1000000 := hKo.1
  have hKo_states : 0 ≤ m_states K ∧ m_states K ≤ 5 := hKo.2.1
  have hKo_place : ∀ j : Int, 0 ≤ j → j < 1536 → 0 ≤ m_place K j ∧ m_place K j ≤ 1536 := hKo.2.2.1
  have hKo_startFact : ∀ j : Int, 0 ≤ j → j < 1536 → 0 ≤ m_startFact K j ∧ m_startFact K j ≤ 7 := hKo.2.2.2.1
  have hKo_node : ∀ j : Int, 0 ≤ j → j < 1536 → 0 ≤ m_node K j ∧ m_node K j ≤ 23 := hKo.2.2.2.2.1
  have hKo_fact : ∀ j : Int, 0 ≤ j → j < 1536 → 0 ≤ m_fact K j ∧ m_fact K j ≤ 7 := hKo.2.2.2.2.2.1
  have hKo_ahead : ∀ j : Int, 0 ≤ j → j < 1536 → -1 ≤ m_ahead K j ∧ m_ahead K j ≤ 1535 := hKo.2.2.2.2.2.2.1
  have hKo_inside : ∀ j : Int, 0 ≤ j → j < 1536 → -1 ≤ m_inside K j ∧ m_inside K j ≤ 1535 := hKo.2.2.2.2.2.2.2.1
  have hKo_entries : 0 ≤ m_entries K ∧ m_entries K ≤ 1536 := hKo.2.2.2.2.2.2.2.2.1
  have hKo_caller : ∀ j : Int, 0 ≤ j → j < 16384 → 0 ≤ m_caller K j ∧ m_caller K j ≤ 49151 := hKo.2.2.2.2.2.2.2.2.2.1
  have hKo_following : ∀ j : Int, 0 ≤ j → j < 16384 → -1 ≤ m_following K j ∧ m_following K j ≤ 16383 := hKo.2.2.2.2.2.2.2.2.2.2.1
  have hKo_firstCaller : ∀ j : Int, 0 ≤ j → j < 40 → -1 ≤ m_firstCaller K j ∧ m_firstCaller K j ≤ 16383 := hKo.2.2.2.2.2.2.2.2.2.2.2.1
  have hKo_lastCaller : ∀ j : Int, 0 ≤ j → j < 40 → -1 ≤ m_lastCaller K j ∧ m_lastCaller K j ≤ 16383 := hKo.2.2.2.2.2.2.2.2.2.2.2.2.1
  have hKo_callers : 0 ≤ m_callers K ∧ m_callers K ≤ 16384 := hKo.2.2.2.2.2.2.2.2.2.2.2.2.2.1
  have hKo_known : 0 ≤ m_known K ∧ m_known K ≤ 1 := hKo.2.2.2.2.2.2.2.2.2.2.2.2.2.2.1
  have hKo_loose : ∀ j : Int, 0 ≤ j → j < 24 → 0 ≤ m_loose K j ∧ m_loose K j ≤ 255 := hKo.2.2.2.2.2.2.2.2.2.2.2.2.2.2.2.1
  have hKo_stack : ∀ j : Int, 0 ≤ j → j < 8000 → 0 ≤ m_stack K j ∧ m_stack K j ≤ 6143 := hKo.2.2.2.2.2.2.2.2.2.2.2.2.2.2.2.2.1
  have hKo_high : 0 ≤ m_high K ∧ m_high K ≤ 8000 := hKo.2.2.2.2.2.2.2.2.2.2.2.2.2.2.2.2.2.1
  have hKo_pairs : ∀ j : Int, 0 ≤ j → j < 1000 → 0 ≤ m_pairs K j ∧ m_pairs K j ≤ 239 := hKo.2.2.2.2.2.2.2.2.2.2.2.2.2.2.2.2.2.2.1
  have hKo_told : 0 ≤ m_told K ∧ m_told K ≤ 1000 := hKo.2.2.2.2.2.2.2.2.2.2.2.2.2.2.2.2.2.2.2.1
  have hKo_text : ∀ j : Int, 0 ≤ j → j < 120 → 0 ≤ m_text K j ∧ m_text K j ≤ 127 := hKo.2.2.2.2.2.2.2.2.2.2.2.2.2.2.2.2.2.2.2.2.1
  have hKo_typed : 0 ≤ m_typed K ∧ m_typed K ≤ 120 := hKo.2.2.2.2.2.2.2.2.2.2.2.2.2.2.2.2.2.2.2.2.2.1
  have hKo_orders : ∀ j : Int, 0 ≤ j → j < 300 → 0 ≤ m_orders K j ∧ m_orders K j ≤ 999 := hKo.2.2.2.2.2.2.2.2.2.2.2.2.2.2.2.2.2.2.2.2.2.2.1
  have hKo_written : 0 ≤ m_written K ∧ m_written K ≤ 60 := hKo.2.2.2.2.2.2.2.2.2.2.2.2.2.2.2.2.2.2.2.2.2.2.2.1
  have hKo_look : 0 ≤ m_look K ∧ m_look K ≤ 120 := hKo.2.2.2.2.2.2.2.2.2.2.2.2.2.2.2.2.2.2.2.2.2.2.2.2
  refine r_aload_n C dX5_witness_0 hl 0 rfl ?_
  refine r_iload_n C dX5_witness_1 hl 1 rfl ?_
  refine r_callR (rest := []) (r := .int (iI (bI (0 ≤ n ∧ n ≤ (m_now M) 1 - 1)))) C hl.1 (c_X5_isNode l g o ad (m_refused M) (m_now M) (m_kept M) (m_states M) (m_place M) (m_startFact M) (m_node M) (m_fact M) (m_ahead M) (m_inside M) (m_entries M) (m_caller M) (m_following M) (m_firstCaller M) (m_lastCaller M) (m_callers M) (m_known M) (m_loose M) (m_stack M) (m_high M) (m_pairs M) (m_told M) (m_text M) (m_typed M) (m_orders M) (m_written M) (m_look M) n (by assumption) (show rg n by omega)) v_X5_101 rfl hW.1 0 rfl rfl rfl (by decide) (by decide) (Nat.le_of_ble_eq_true rfl) dX5_witness_2 rfl ?_
  refine r_ifb_eq C 23 dX5_witness_5 (by decide) (fun hc1 => ?_) (fun hc1 => ?_)
  · skip
    refine r_aload_n C dX5_witness_23 hl 0 rfl ?_
    refine r_callW (rest := []) (r := some (.int (iI (-2)))) (wr := []) (ws2 := mF g o ad (up ((m_refused M)) 0 ((m_refused M) 0 + 1)) (m_now M) (m_kept M) (m_states M) (m_place M) (m_startFact M) (m_node M) (m_fact M) (m_ahead M) (m_inside M) (m_entries M) (m_caller M) (m_following M) (m_firstCaller M) (m_lastCaller M) (m_callers M) (m_known M) (m_loose M) (m_stack M) (m_high M) (m_pairs M) (m_told M) (m_text M) (m_typed M) (m_orders M) (m_written M) (m_look M)) (st1 := [.int (iI (-2))]) C hl.1 hW hA (c_X5_bad l g o ad (m_refused M) (m_now M) (m_kept M) (m_states M) (m_place M) (m_startFact M) (m_node M) (m_fact M) (m_ahead M) (m_inside M) (m_entries M) (m_caller M) (m_following M) (m_firstCaller M) (m_lastCaller M) (m_callers M) (m_known M) (m_loose M) (m_stack M) (m_high M) (m_pairs M) (m_told M) (m_text M) (m_typed M) (m_orders M) (m_written M) (m_look M)) v_X5_68 rfl [0, 1, 2, 3, 4, 5, 6, 7, 8, 9, 10, 11, 12, 13, 14, 15, 16, 17, 18] [] [0, 1, 2, 3, 4, 5, 6, 7, 8, 9, 10, 11, 12, 13, 14, 15, 16, 17, 18] rfl rfl (by decide) (by decide) rfl rfl 0 rfl rfl rfl (by decide) (by decide) (Nat.le_of_ble_eq_true rfl) dX5_witness_24 rfl rfl (fun H locs hW => ?_)
    have hE : mWitness n f i M = (-2, (up ((m_refused M)) 0 ((m_refused M) 0 + 1), m_now M, m_kept M, m_states M, m_place M, m_startFact M, m_node M, m_fact M, m_ahead M, m_inside M, m_entries M, m_caller M, m_following M, m_firstCaller M, m_lastCaller M, m_callers M, m_known M, m_loose M, m_stack M, m_high M, m_pairs M, m_told M, m_text M, m_typed M, m_orders M, m_written M, m_look M)) := if_neg (by omega)
    exact MW_iret C hAe hrt hlk hW dX5_witness_27 (iw (by rw [hE])) (by rw [hE])
  · skip
    refine r_iload_n C dX5_witness_8 hl 2 rfl ?_
    refine r_iconst (z := 0) C dX5_witness_9 rfl ?_
    refine r_bipush (z := 7) C dX5_witness_10 rfl ?_
    refine r_callRS (rest := []) (r := .int (iI (bI (0 ≤ f ∧ f ≤ 7)))) C hl.1 (c_X5_in l g  f 0 7 (show rg f by omega) (show rg 0 by omega) (show rg 7 by omega)) v_X5_89 rfl (fun k q h => by simp at h) (by decide) (by decide) (Nat.le_of_ble_eq_true rfl) dX5_witness_12 rfl ?_
    refine r_ifb_eq C 23 dX5_witness_15 (by decide) (fun hc2 => ?_) (fun hc2 => ?_)
    · skip
      refine r_aload_n C dX5_witness_23 hl 0 rfl ?_
      refine r_callW (rest := []) (r := some (.int (iI (-2)))) (wr := []) (ws2 := mF g o ad (up ((m_refused M)) 0 ((m_refused M) 0 + 1)) (m_now M) (m_kept M) (m_states M) (m_place M) (m_startFact M) (m_node M) (m_fact M) (m_ahead M) (m_inside M) (m_entries M) (m_caller M) (m_following M) (m_firstCaller M) (m_lastCaller M) (m_callers M) (m_known M) (m_loose M) (m_stack M) (m_high M) (m_pairs M) (m_told M) (m_text M) (m_typed M) (m_orders M) (m_written M) (m_look M)) (st1 := [.int (iI (-2))]) C hl.1 hW hA (c_X5_bad l g o ad (m_refused M) (m_now M) (m_kept M) (m_states M) (m_place M) (m_startFact M) (m_node M) (m_fact M) (m_ahead M) (m_inside M) (m_entries M) (m_caller M) (m_following M) (m_firstCaller M) (m_lastCaller M) (m_callers M) (m_known M) (m_loose M) (m_stack M) (m_high M) (m_pairs M) (m_told M) (m_text M) (m_typed M) (m_orders M) (m_written M) (m_look M)) v_X5_68 rfl [0, 1, 2, 3, 4, 5, 6, 7, 8, 9, 10, 11, 12, 13, 14, 15, 16, 17, 18] [] [0, 1, 2, 3, 4, 5, 6, 7, 8, 9, 10, 11, 12, 13, 14, 15, 16, 17, 18] rfl rfl (by decide) (by decide) rfl rfl 0 rfl rfl rfl (by decide) (by decide) (Nat.le_of_ble_eq_true rfl) dX5_witness_24 rfl rfl (fun H locs hW => ?_)
      have hE : mWitness n f i M = (-2, (up ((m_refused M)) 0 ((m_refused M) 0 + 1), m_now M, m_kept M, m_states M, m_place M, m_startFact M, m_node M, m_fact M, m_ahead M, m_inside M, m_entries M, m_caller M, m_following M, m_firstCaller M, m_lastCaller M, m_callers M, m_known M, m_loose M, m_stack M, m_high M, m_pairs M, m_told M, m_text M, m_typed M, m_orders M, m_written M, m_look M)) := if_neg (by omega)
      exact MW_iret C hAe hrt hlk hW dX5_witness_27 (iw (by rw [hE])) (by rw [hE])
    · skip
      refine r_iload_n C dX5_witness_18 hl 3 rfl ?_
      refine r_iconst (z := -1) C dX5_witness_19 rfl ?_
      refine r_icmp_ge C 28 dX5_witness_20 (by decide) (by omega) (by omega) (fun hc3 => ?_) (fun hc3 => ?_)
      · skip
        refine r_aload_n C dX5_witness_28 hl 0 rfl ?_
        refine r_callW (rest := []) (r := none) (wr := []) (ws2 := mF g o ad (m_refused K) (m_now K) (m_kept K) (m_states K) (m_place K) (m_startFact K) (m_node K) (m_fact K) (m_ahead K) (m_inside K) (m_entries K) (m_caller K) (m_following K) (m_firstCaller K) (m_lastCaller K) (m_callers K) (m_known K) (m_loose K) (m_stack K) (m_high K) (m_pairs K) (m_told K) (m_text K) (m_typed K) (m_orders K) (m_written K) (m_look K)) (st1 := []) C hl.1 hW hA (c_X5_knows l g o ad M K (by assumption) (by assumption) (by assumption) hK) v_X5_188 rfl [0, 1, 2, 3, 4, 5, 6, 7, 8, 9, 10, 11, 12, 13, 14, 15, 16, 17, 18] [] [0, 1, 2, 3, 4, 5, 6, 7, 8, 9, 10, 11, 12, 13, 14, 15, 16, 17, 18] rfl rfl (by decide) (by decide) rfl rfl 0 rfl rfl rfl (by decide) (by decide) (Nat.le_of_ble_eq_true rfl) dX5_witness_29 rfl rfl (fun H locs hW => ?_)
        refine r_sipush (z := 1537) C dX5_witness_32 rfl ?_
        refine r_istore C [(4, .int (iI (1537))), (0, .ref (o)), (1, .int (iI (n))), (2, .int (iI (f))), (3, .int (iI (i)))] dX5_witness_35 hl (by decide) rfl (fun ls hl => ?_)
        refine r_iconst (z := 0) C dX5_witness_37 rfl ?_
        refine r_istore C [(5, .int (iI (0))), (4, .int (iI (1537))), (0, .ref (o)), (1, .int (iI (n))), (2, .int (iI (f))), (3, .int (iI (i)))] dX5_witness_38 hl (by decide) rfl (fun ls hl => ?_)
        have hloop40 : ∀ (k40 : Nat) (a x : Int) (hkk : a + k40 = 8) (ha : 0 ≤ a) (hx9 : x = 1537 ∨ (1 ≤ x ∧ x ≤ m_entries K)) (hq : mFst K n f = it (mFstF K n f) k40 a x) (H : Heap) (locs : List Loc) (ls : Array Slot), HW g A zs.heap (mF g o ad (m_refused K) (m_now K) (m_kept K) (m_states K) (m_place K) (m_startFact K) (m_node K) (m_fact K) (m_ahead K) (m_inside K) (m_entries K) (m_caller K) (m_following K) (m_firstCaller K) (m_lastCaller K) (m_callers K) (m_known K) (m_loose K) (m_stack K) (m_high K) (m_pairs K) (m_told K) (m_text K) (m_typed K) (m_orders K) (m_written K) (m_look K)) H locs → lv_has ls 7 [(0, .ref (o)), (1, .int (iI (n))), (2, .int (iI (f))), (3, .int (iI (i))), (4, .int (iI (x))), (5, .int (iI (a)))] → W zp l ze (rmm 7 168) zs zm (List.toArray [.ref (o), .int (iI (n)), .int (iI (f)), .int (iI (i))]) zb zt zc H locs 0 0 (MQ zb (QW g (mF g o ad (m_refused M) (m_now M) (m_kept M) (m_states M) (m_place M) (m_startFact M) (m_node M) (m_fact M) (m_ahead M) (m_inside M) (m_entries M) (m_caller M) (m_following M) (m_firstCaller M) (m_lastCaller M) (m_callers M) (m_known M) (m_loose M) (m_stack M) (m_high M) (m_pairs M) (m_told M) (m_text M) (m_typed M) (m_orders M) (m_written M) (m_look M)) (mF g o ad (m_refused ((mWitness n f i M).2)) (m_now ((mWitness n f i M).2)) (m_kept ((mWitness n f i M).2)) (m_states ((mWitness n f i M).2)) (m_place ((mWitness n f i M).2)) (m_startFact ((mWitness n f i M).2)) (m_node ((mWitness n f i M).2)) (m_fact ((mWitness n f i M).2)) (m_ahead ((mWitness n f i M).2)) (m_inside ((mWitness n f i M).2)) (m_entries ((mWitness n f i M).2)) (m_caller ((mWitness n f i M).2)) (m_following ((mWitness n f i M).2)) (m_firstCaller ((mWitness n f i M).2)) (m_lastCaller ((mWitness n f i M).2)) (m_callers ((mWitness n f i M).2)) (m_known ((mWitness n f i M).2)) (m_loose ((mWitness n f i M).2)) (m_stack ((mWitness n f i M).2)) (m_high ((mWitness n f i M).2)) (m_pairs ((mWitness n f i M).2)) (m_told ((mWitness n f i M).2)) (m_text ((mWitness n f i M).2)) (m_typed ((mWitness n f i M).2)) (m_orders ((mWitness n f i M).2)) (m_written ((mWitness n f i M).2)) (m_look ((mWitness n f i M).2))) zs.heap.size (some (.int (iI ((mWitness n f i M).1))))) (List.toArray [.ref (o), .int (iI (n)), .int (iI (f)), .int (iI (i))]) zs 0 0 A) (F0 zm 40 ls []) := by
          intro k40
          induction k40 with
          | zero =>
            intro a x hkk ha hx9 hq H locs ls hW hl
            refine r_iload C dX5_witness_40 hl 5 rfl ?_
            refine r_bipush (z := 8) C dX5_witness_42 rfl ?_
            refine r_icmp_ge C 88 dX5_witness_44 (by decide) (by omega) (by omega) (fun hc4 => ?_) (fun hc4 => ?_)
            · skip
              refine r_iload C dX5_witness_88 hl 4 rfl ?_
              refine r_sipush (z := 1536) C dX5_witness_90 rfl ?_
              refine r_icmp_le C 98 dX5_witness_93 (by decide) (by omega) (by omega) (fun hc5 => ?_) (fun hc5 => ?_)
              · skip
                have hxx : 1 ≤ x ∧ x ≤ m_entries K := by omega
                have hSW9 : spW K (x - 1) := fun i9 i0 i1 => hAh i9 i0 (by omega)
                refine opq (mSp (x - 1) K) (fun S hS => ?_)
                have hSo : mOk S := by rw [← hS]; exact mSp_ok hKo (by omega) hSW9
                have hSo_refused : ∀ j : Int, 0 ≤ j → j < 3 → 0 ≤ m_refused S j ∧ m_refused S j ≤ 1000000 := hSo.1
                have hSo_states : 0 ≤ m_states S ∧ m_states S ≤ 5 := hSo.2.1
                have hSo_place : ∀ j : Int, 0 ≤ j → j < 1536 → 0 ≤ m_place S j ∧ m_place S j ≤ 1536 := hSo.2.2.1
                have hSo_startFact : ∀ j : Int, 0 ≤ j → j < 1536 → 0 ≤ m_startFact S j ∧ m_startFact S j ≤ 7 := hSo.2.2.2.1
                have hSo_node : ∀ j : Int, 0 ≤ j → j < 1536 → 0 ≤ m_node S j ∧ m_node S j ≤ 23 := hSo.2.2.2.2.1
                have hSo_fact : ∀ j : Int, 0 ≤ j → j < 1536 → 0 ≤ m_fact S j ∧ m_fact S j ≤ 7 := hSo.2.2.2.2.2.1
                have hSo_ahead : ∀ j : Int, 0 ≤ j → j < 1536 → -1 ≤ m_ahead S j ∧ m_ahead S j ≤ 1535 := hSo.2.2.2.2.2.2.1
                have hSo_inside : ∀ j : Int, 0 ≤ j → j < 1536 → -1 ≤ m_inside S j ∧ m_inside S j ≤ 1535 := hSo.2.2.2.2.2.2.2.1
                have hSo_entries : 0 ≤ m_entries S ∧ m_entries S ≤ 1536 := hSo.2.2.2.2.2.2.2.2.1
                have hSo_caller : ∀ j : Int, 0 ≤ j → j < 16384 → 0 ≤ m_caller S j ∧ m_caller S j ≤ 49151 := hSo.2.2.2.2.2.2.2.2.2.1
                have hSo_following : ∀ j : Int, 0 ≤ j → j < 16384 → -1 ≤ m_following S j ∧ m_following S j ≤ 16383 := hSo.2.2.2.2.2.2.2.2.2.2.1
                have hSo_firstCaller : ∀ j : Int, 0 ≤ j → j < 40 → -1 ≤ m_firstCaller S j ∧ m_firstCaller S j ≤ 16383 := hSo.2.2.2.2.2.2.2.2.2.2.2.1
                have hSo_lastCaller : ∀ j : Int, 0 ≤ j → j < 40 → -1 ≤ m_lastCaller S j ∧ m_lastCaller S j ≤ 16383 := hSo.2.2.2.2.2.2.2.2.2.2.2.2.1
                have hSo_callers : 0 ≤ m_callers S ∧ m_callers S ≤ 16384 := hSo.2.2.2.2.2.2.2.2.2.2.2.2.2.1
                have hSo_known : 0 ≤ m_known S ∧ m_known S ≤ 1 := hSo.2.2.2.2.2.2.2.2.2.2.2.2.2.2.1
                have hSo_loose : ∀ j : Int, 0 ≤ j → j < 24 → 0 ≤ m_loose S j ∧ m_loose S j ≤ 255 := hSo.2.2.2.2.2.2.2.2.2.2.2.2.2.2.2.1
                have hSo_stack : ∀ j : Int, 0 ≤ j → j < 8000 → 0 ≤ m_stack S j ∧ m_stack S j ≤ 6143 := hSo.2.2.2.2.2.2.2.2.2.2.2.2.2.2.2.2.1
                have hSo_high : 0 ≤ m_high S ∧ m_high S ≤ 8000 := hSo.2.2.2.2.2.2.2.2.2.2.2.2.2.2.2.2.2.1
                have hSo_pairs : ∀ j : Int, 0 ≤ j → j < 1000 → 0 ≤ m_pairs S j ∧ m_pairs S j ≤ 239 := hSo.2.2.2.2.2.2.2.2.2.2.2.2.2.2.2.2.2.2.1
                have hSo_told : 0 ≤ m_told S ∧ m_told S ≤ 1000 := hSo.2.2.2.2.2.2.2.2.2.2.2.2.2.2.2.2.2.2.2.1
                have hSo_text : ∀ j : Int, 0 ≤ j → j < 120 → 0 ≤ m_text S j ∧ m_text S j ≤ 127 := hSo.2.2.2.2.2.2.2.2.2.2.2.2.2.2.2.2.2.2.2.2.1
                have hSo_typed : 0 ≤ m_typed S ∧ m_typed S ≤ 120 := hSo.2.2.2.2.2.2.2.2.2.2.2.2.2.2.2.2.2.2.2.2.2.1
                have hSo_orders : ∀ j : Int, 0 ≤ j → j < 300 → 0 ≤ m_orders S j ∧ m_orders S j ≤ 999 := hSo.2.2.2.2.2.2.2.2.2.2.2.2.2.2.2.2.2.2.2.2.2.2.1
                have hSo_written : 0 ≤ m_written S ∧ m_written S ≤ 60 := hSo.2.2.2.2.2.2.2.2.2.2.2.2.2.2.2.2.2.2.2.2.2.2.2.1
                have hSo_look : 0 ≤ m_look S ∧ m_look S ≤ 120 := hSo.2.2.2.2.2.2.2.2.2.2.2.2.2.2.2.2.2.2.2.2.2.2.2.2
                refine r_aload_n C dX5_witness_98 hl 0 rfl ?_
                refine r_iload C dX5_witness_99 hl 4 rfl ?_
                refine r_iconst (z := 1) C dX5_witness_101 rfl ?_
                refine r_isub C dX5_witness_102 ?_
                refine r_callW (rest := []) (r := none) (wr := []) (ws2 := mF g o ad (m_refused S) (m_now S) (m_kept S) (m_states S) (m_place S) (m_startFact S) (m_node S) (m_fact S) (m_ahead S) (m_inside S) (m_entries S) (m_caller S) (m_following S) (m_firstCaller S) (m_lastCaller S) (m_callers S) (m_known S) (m_loose S) (m_stack S) (m_high S) (m_pairs S) (m_told S) (m_text S) (m_typed S) (m_orders S) (m_written S) (m_look S)) (st1 := []) C hl.1 hW hA (c_X5_spellsK l g o ad K (x - 1) S hKo (by assumption) (show 0 ≤ (x - 1) ∧ (x - 1) < 1536 by omega) hSW9 hS) v_X5_215 rfl [0, 1, 2, 3, 4, 5, 6, 7, 8, 9, 10, 11, 12, 13, 14, 15, 16, 17, 18] [] [0, 1, 2, 3, 4, 5, 6, 7, 8, 9, 10, 11, 12, 13, 14, 15, 16, 17, 18] rfl rfl (by decide) (by decide) rfl rfl 0 rfl rfl rfl (by decide) (by decide) (Nat.le_of_ble_eq_true rfl) dX5_witness_103 rfl rfl (fun H locs hW => ?_)
                skip
                refine r_iload_n C dX5_witness_106 hl 3 rfl ?_
                refine r_iconst (z := -1) C dX5_witness_107 rfl ?_
                refine r_icmp_ne C 118 dX5_witness_108 (by decide) (by omega) (by omega) (fun hc6 => ?_) (fun hc6 => ?_)
                · skip
                  refine r_iload_n C dX5_witness_118 hl 3 rfl ?_
                  refine r_aload_n C dX5_witness_119 hl 0 rfl ?_
                  refine r_get (v := .int (iI (m_told S))) C f_X5_209 hW.1 0 rfl rfl dX5_witness_120 ?_
                  refine r_icmp_ge C 135 dX5_witness_123 (by decide) (by omega) (by omega) (fun hc7 => ?_) (fun hc7 => ?_)
                  · skip
                    refine r_iconst (z := -1) C dX5_witness_135 rfl ?_
                    have hE : mWitness n f i M = (-1, S) := by unfold mWitness; rw [if_pos (by omega), hK, show mFst K n f = x from hq, if_neg (by omega), hS]; exact Prod.ext (by unfold mWitA; (repeat' split) <;> first | rfl | (exfalso; omega)) rfl
                    exact MW_iret C hAe hrt hlk hW dX5_witness_136 (iw (by rw [hE])) (by rw [hE])
                  · skip
                    refine r_aload_n C dX5_witness_126 hl 0 rfl ?_
                    refine r_get (v := .ref (ad 15)) C f_X5_55 hW.1 0 rfl rfl dX5_witness_127 ?_
                    refine r_iload_n C dX5_witness_130 hl 3 rfl ?_
                    refine r_iald (f := m_pairs S) C hW.1 16 rfl (Nat.le_of_ble_eq_true rfl) (by omega) dX5_witness_131 ?_
                    have hr8 := hSo_pairs i (by omega) (by omega)
                    refine r_goto C 136 dX5_witness_132 (by decide) ?_
                    have hE : mWitness n f i M = (m_pairs S i, S) := by unfold mWitness; rw [if_pos (by omega), hK, show mFst K n f = x from hq, if_neg (by omega), hS]; exact Prod.ext (by unfold mWitA; (repeat' split) <;> first | rfl | (exfalso; omega)) rfl
                    exact MW_iret C hAe hrt hlk hW dX5_witness_136 (iw (by rw [hE])) (by rw [hE])
                · skip
                  refine r_aload_n C dX5_witness_111 hl 0 rfl ?_
                  refine r_get (v := .int (iI (m_told S))) C f_X5_209 hW.1 0 rfl rfl dX5_witness_112 ?_
                  refine r_goto C 136 dX5_witness_115 (by decide) ?_
                  have hE : mWitness n f i M = (m_told S, S) := by unfold mWitness; rw [if_pos (by omega), hK, show mFst K n f = x from hq, if_neg (by omega), hS]; exact Prod.ext (by unfold mWitA; (repeat' split) <;> first | rfl | (exfalso; omega)) rfl
                  exact MW_iret C hAe hrt hlk hW dX5_witness_136 (iw (by rw [hE])) (by rw [hE])
              · skip
                refine r_iconst (z := -1) C dX5_witness_96 rfl ?_
                have hE : mWitness n f i M = (-1, K) := by unfold mWitness; rw [if_pos (by omega), hK, show mFst K n f = x from hq, if_pos (by omega)]
                exact MW_iret C hAe hrt hlk hW dX5_witness_97 (iw (by rw [hE])) (by rw [hE])
            · exact absurd hc4 (by omega)
          | succ k40 ih40 =>
            intro a x hkk ha hx9 hq H locs ls hW hl
            refine r_iload C dX5_witness_40 hl 5 rfl ?_
            refine r_bipush (z := 8) C dX5_witness_42 rfl ?_
            refine r_icmp_ge C 88 dX5_witness_44 (by decide) (by omega) (by omega) (fun hc9 => ?_) (fun hc9 => ?_)
            · exact absurd hc9 (by omega)
            · skip
              refine r_aload_n C dX5_witness_47 hl 0 rfl ?_
              refine r_get (v := .ref (ad 3)) C f_X5_19 hW.1 0 rfl rfl dX5_witness_48 ?_
              refine r_iload C dX5_witness_51 hl 5 rfl ?_
              refine r_iload_n C dX5_witness_53 hl 1 rfl ?_
              refine r_iload_n C dX5_witness_54 hl 2 rfl ?_
              refine r_callRS (rest := [.ref (ad 3)]) (r := .int (iI ((8 * n + a) * 8 + f))) C hl.1 (c_X5_key l g  a n f) v_X5_161 rfl (fun k q h => by simp at h) (by decide) (by decide) (Nat.le_of_ble_eq_true rfl) dX5_witness_55 rfl ?_
              refine r_iald (f := m_place K) C hW.1 4 rfl (Nat.le_of_ble_eq_true rfl) (by omega) dX5_witness_58 ?_
              have hr10 := hKo_place ((8 * n + a) * 8 + f) (by omega) (by omega)
              refine r_istore C [(6, .int (iI (m_place K ((8 * n + a) * 8 + f)))), (0, .ref (o)), (1, .int (iI (n))), (2, .int (iI (f))), (3, .int (iI (i))), (4, .int (iI (x))), (5, .int (iI (a)))] dX5_witness_59 hl (by decide) rfl (fun ls hl => ?_)
              have hpl := hP ((8 * n + a) * 8 + f) (by omega) (by omega)
              refine r_iload C dX5_witness_61 hl 0 rfl ?_
              refine r_if_le C 78 dX5_witness_63 (by decide) (by omega) (fun hc11 => ?_) (fun hc11 => ?_)
              · skip
                refine r_iload C dX5_witness_78 hl 5 rfl ?_
                refine r_istore C [(4, .int (iI (x))), (6, .int (iI (m_place K ((8 * n + a) * 8 + f)))), (0, .ref (o)), (1, .int (iI (n))), (2, .int (iI (f))), (3, .int (iI (i))), (5, .int (iI (a)))] dX5_witness_80 hl (by decide) rfl (fun ls hl => ?_)
                refine r_iinc (v := a + 1) C [(5, .int (iI (a + 1))), (4, .int (iI (x))), (6, .int (iI (m_place K ((8 * n + a) * 8 + f)))), (0, .ref (o)), (1, .int (iI (n))), (2, .int (iI (f))), (3, .int (iI (i)))] dX5_witness_82 hl 6 rfl (by decide) (by omega) rfl (fun ls hl => ?_)
                refine r_goto C 40 dX5_witness_85 (by decide) ?_
                have hE : mFstF K n f a x = x := if_neg (show ¬ (0 < m_place K ((8 * n + a) * 8 + f) ∧ m_place K ((8 * n + a) * 8 + f) < x) by omega)
                exact ih40 (a + 1) (x) (by omega) (by omega) (by omega) (by rw [hq, it_s, hE]) _ _ ls hW (lv_sub hl [3, 4, 5, 6, 1, 0] rfl)
              · skip
                refine r_iload C dX5_witness_66 hl 0 rfl ?_
                refine r_iload C dX5_witness_68 hl 5 rfl ?_
                refine r_icmp_ge C 78 dX5_witness_70 (by decide) (by omega) (by omega) (fun hc12 => ?_) (fun hc12 => ?_)
                · skip
                  refine r_iload C dX5_witness_78 hl 5 rfl ?_
                  refine r_istore C [(4, .int (iI (x))), (6, .int (iI (m_place K ((8 * n + a) * 8 + f)))), (0, .ref (o)), (1, .int (iI (n))), (2, .int (iI (f))), (3, .int (iI (i))), (5, .int (iI (a)))] dX5_witness_80 hl (by decide) rfl (fun ls hl => ?_)
                  refine r_iinc (v := a + 1) C [(5, .int (iI (a + 1))), (4, .int (iI (x))), (6, .int (iI (m_place K ((8 * n + a) * 8 + f)))), (0, .ref (o)), (1, .int (iI (n))), (2, .int (iI (f))), (3, .int (iI (i)))] dX5_witness_82 hl 6 rfl (by decide) (by omega) rfl (fun ls hl => ?_)
                  refine r_goto C 40 dX5_witness_85 (by decide) ?_
                  have hE : mFstF K n f a x = x := if_neg (show ¬ (0 < m_place K ((8 * n + a) * 8 + f) ∧ m_place K ((8 * n + a) * 8 + f) < x) by omega)
                  exact ih40 (a + 1) (x) (by omega) (by omega) (by omega) (by rw [hq, it_s, hE]) _ _ ls hW (lv_sub hl [3, 4, 5, 6, 1, 0] rfl)
                · skip
                  refine r_iload C dX5_witness_73 hl 0 rfl ?_
                  refine r_goto C 80 dX5_witness_75 (by decide) ?_
                  refine r_istore C [(4, .int (iI (m_place K ((8 * n + a) * 8 + f)))), (6, .int (iI (m_place K ((8 * n + a) * 8 + f)))), (0, .ref (o)), (1, .int (iI (n))), (2, .int (iI (f))), (3, .int (iI (i))), (5, .int (iI (a)))] dX5_witness_80 hl (by decide) rfl (fun ls hl => ?_)
                  refine r_iinc (v := a + 1) C [(5, .int (iI (a + 1))), (4, .int (iI (m_place K ((8 * n + a) * 8 + f)))), (6, .int (iI (m_place K ((8 * n + a) * 8 + f)))), (0, .ref (o)), (1, .int (iI (n))), (2, .int (iI (f))), (3, .int (iI (i)))] dX5_witness_82 hl 6 rfl (by decide) (by omega) rfl (fun ls hl => ?_)
                  refine r_goto C 40 dX5_witness_85 (by decide) ?_
                  have hE : mFstF K n f a x = m_place K ((8 * n + a) * 8 + f) := if_pos (show 0 < m_place K ((8 * n + a) * 8 + f) ∧ m_place K ((8 * n + a) * 8 + f) < x by omega)
                  exact ih40 (a + 1) (m_place K ((8 * n + a) * 8 + f)) (by omega) (by omega) (by omega) (by rw [hq, it_s, hE]) _ _ ls hW (lv_sub hl [3, 4, 5, 6, 1, 0] rfl)
        exact hloop40 8 0 1537 (by omega) (by omega) (by omega) rfl _ _ ls hW (lv_sub hl [2, 3, 4, 5, 1, 0] rfl)
      · skip
        refine r_aload_n C dX5_witness_23 hl 0 rfl ?_
        refine r_callW (rest := []) (r := some (.int (iI (-2)))) (wr := []) (ws2 := mF g o ad (up ((m_refused M)) 0 ((m_refused M) 0 + 1)) (m_now M) (m_kept M) (m_states M) (m_place M) (m_startFact M) (m_node M) (m_fact M) (m_ahead M) (m_inside M) (m_entries M) (m_caller M) (m_following M) (m_firstCaller M) (m_lastCaller M) (m_callers M) (m_known M) (m_loose M) (m_stack M) (m_high M) (m_pairs M) (m_told M) (m_text M) (m_typed M) (m_orders M) (m_written M) (m_look M)) (st1 := [.int (iI (-2))]) C hl.1 hW hA (c_X5_bad l g o ad (m_refused M) (m_now M) (m_kept M) (m_states M) (m_place M) (m_startFact M) (m_node M) (m_fact M) (m_ahead M) (m_inside M) (m_entries M) (m_caller M) (m_following M) (m_firstCaller M) (m_lastCaller M) (m_callers M) (m_known M) (m_loose M) (m_stack M) (m_high M) (m_pairs M) (m_told M) (m_text M) (m_typed M) (m_orders M) (m_written M) (m_look M)) v_X5_68 rfl [0, 1, 2, 3, 4, 5, 6, 7, 8, 9, 10, 11, 12, 13, 14, 15, 16, 17, 18] [] [0, 1, 2, 3, 4, 5, 6, 7, 8, 9, 10, 11, 12, 13, 14, 15, 16, 17, 18] rfl rfl (by decide) (by decide) rfl rfl 0 rfl rfl rfl (by decide) (by decide) (Nat.le_of_ble_eq_true rfl) dX5_witness_24 rfl rfl (fun H locs hW => ?_)
        have hE : mWitness n f i M = (-2, (up ((m_refused M)) 0 ((m_refused M) 0 + 1), m_now M, m_kept M, m_states M, m_place M, m_startFact M, m_node M, m_fact M, m_ahead M, m_inside M, m_entries M, m_caller M, m_following M, m_firstCaller M, m_lastCaller M, m_callers M, m_known M, m_loose M, m_stack M, m_high M, m_pairs M, m_told M, m_text M, m_typed M, m_orders M, m_written M, m_look M)) := if_neg (by omega)
        exact MW_iret C hAe hrt hlk hW dX5_witness_27 (iw (by rw [hE])) (by rw [hE])
theorem c_X5_loosensK (l : Launch) (g : GG) (o : Nat) (ad : Nat → Nat) (M : Md) (K : Md) (hM : mOk M) (hN : nOk (m_now M)) (hWf : nWf (m_now M)) (hK : mLo M = K) : MW l g yX5_loosens cX5_loosens 9 none 2 48 [.ref (o)] (mF g o ad (m_refused M) (m_now M) (m_kept M) (m_states M) (m_place M) (m_startFact M) (m_node M) (m_fact M) (m_ahead M) (m_inside M) (m_entries M) (m_caller M) (m_following M) (m_firstCaller M) (m_lastCaller M) (m_callers M) (m_known M) (m_loose M) (m_stack M) (m_high M) (m_pairs M) (m_told M) (m_text M) (m_typed M) (m_orders M) (m_written M) (m_look M)) (mF g o ad (m_refused K) (m_now K) (m_kept K) (m_states K) (m_place K) (m_startFact K) (m_node K) (m_fact K) (m_ahead K) (m_inside K) (m_entries K) (m_caller K) (m_following K) (m_firstCaller K) (m_lastCaller K) (m_callers K) (m_known K) (m_loose K) (m_stack K) (m_high K) (m_pairs K) (m_told K) (m_text K) (m_typed K) (m_orders K) (m_written K) (m_look K)) none := by
  subst hK
  exact c_X5_loosens l g o ad M  hM hN hWf
set_option maxHeartbeats 4000000 in
set_option maxRecDepth 100000 in
theorem c_X5_digest (l : Launch) (g : GG) (o : Nat) (ad : Nat → Nat) (M : Md) (hM : mOk M) (hN : nOk (m_now M)) (hWf : nWf (m_now M)) : MW l g yX5_digest cX5_digest 5 (some .long) 8 191 [.ref (o)] (mF g o ad (m_refused M) (m_now M) (m_kept M) (m_states M) (m_place M) (m_startFact M) (m_node M) (m_fact M) (m_ahead M) (m_inside M) (m_entries M) (m_caller M) (m_following M) (m_firstCaller M) (m_lastCaller M) (m_callers M) (m_known M) (m_loose M) (m_stack M) (m_high M) (m_pairs M) (m_told M) (m_text M) (m_typed M) (m_orders M) (m_written M) (m_look M)) (mF g o ad (m_refused (mLo (mKn M))) (m_now (mLo (mKn M))) (m_kept (mLo (mKn M))) (m_states (mLo (mKn M))) (m_place (mLo (mKn M))) (m_startFact (mLo (mKn M))) (m_node (mLo (mKn M))) (m_fact (mLo (mKn M))) (m_ahead (mLo (mKn M))) (m_inside (mLo (mKn M))) (m_entries (mLo (mKn M))) (m_caller (mLo (mKn M))) (m_following (mLo (mKn M))) (m_firstCaller (mLo (mKn M))) (m_lastCaller (mLo (mKn M))) (m_callers (mLo (mKn M))) (m_known (mLo (mKn M))) (m_loose (mLo (mKn M))) (m_stack (mLo (mKn M))) (m_high (mLo (mKn M))) (m_pairs (mLo (mKn M))) (m_told (mLo (mKn M))) (m_text (mLo (mKn M))) (m_typed (mLo (mKn M))) (m_orders (mLo (mKn M))) (m_written (mLo (mKn M))) (m_look (mLo (mKn M)))) (some (.long (lI (mDigest M)))) := by
  refine MW_start (by decide) (Nat.le_of_ble_eq_true rfl) ?_
  intro zp ze zs zm zb zt zc A hAe C hrt hlk hW ls hl
  have hA : ∀ q, zs.heap.size ≤ q → A q := fun q h => by rw [hAe]; exact Or.inr h
  have hl : lv_has ls 5 [(0, .ref (o))] := hl
  have hM_refused : ∀ j : Int, 0 ≤ j → j < 3 → 0 ≤ m_refused M j ∧ m_refused M j ≤ 1000000 := hM.1
  have hM_states : 0 ≤ m_states M ∧ m_states M ≤ 5 := hM.2.1
  have hM_place : ∀ j : Int, 0 ≤ j → j < 1536 → 0 ≤ m_place M j ∧ m_place M j ≤ 1536 := hM.2.2.1
  have hM_startFact : ∀ j : Int, 0 ≤ j → j < 1536 → 0 ≤ m_startFact M j ∧ m_startFact M j ≤ 7 := hM.2.2.2.1
  have hM_node : ∀ j : Int, 0 ≤ j → j < 1536 → 0 ≤ m_node M j ∧ m_node M j ≤ 23 := hM.2.2.2.2.1
  have hM_fact : ∀ j : Int, 0 ≤ j → j < 1536 → 0 ≤ m_fact M j ∧ m_fact M j ≤ 7 := hM.2.2.2.2.2.1
  have hM_ahead : ∀ j : Int, 0 ≤ j → j < 1536 → -1 ≤ m_ahead M j ∧ m_ahead M j ≤ 1535 := hM.2.2.2.2.2.2.1
  have hM_inside : ∀ j : Int, 0 ≤ j → j < 1536 → -1 ≤ m_inside M j ∧ m_inside M j ≤ 1535 := hM.2.2.2.2.2.2.2.1
  have hM_entries : 0 ≤ m_entries M ∧ m_entries M ≤ 1536 := hM.2.2.2.2.2.2.2.2.1
  have hM_caller : ∀ j : Int, 0 ≤ j → j < 16384 → 0 ≤ m_caller M j ∧ m_caller M j ≤ 49151 := hM.2.2.2.2.2.2.2.2.2.1
  have hM_following : ∀ j : Int, 0 ≤ j → j < 16384 → -1 ≤ m_following M j ∧ m_following M j ≤ 16383 := hM.2.2.2.2.2.2.2.2.2.2.1
  have hM_firstCaller : ∀ j : Int, 0 ≤ j → j < 40 → -1 ≤ m_firstCaller M j ∧ m_firstCaller M j ≤ 16383 := hM.2.2.2.2.2.2.2.2.2.2.2.1
  have hM_lastCaller : ∀ j : Int, 0 ≤ j → j < 40 → -1 ≤ m_lastCaller M j ∧ m_lastCaller M j ≤ 16383 := hM.2.2.2.2.2.2.2.2.2.2.2.2.1
  have hM_callers : 0 ≤ m_callers M ∧ m_callers M ≤ 16384 := hM.2.2.2.2.2.2.2.2.2.2.2.2.2.1
  have hM_known : 0 ≤ m_known M ∧ m_known M ≤ 1 := hM.2.2.2.2.2.2.2.2.2.2.2.2.2.2.1
  have hM_loose : ∀ j : Int, 0 ≤ j → j < 24 → 0 ≤ m_loose M j ∧ m_loose M j ≤ 255 := hM.2.2.2.2.2.2.2.2.2.2.2.2.2.2.2.1
  have hM_stack : ∀ j : Int, 0 ≤ j → j < 8000 → 0 ≤ m_stack M j ∧ m_stack M j ≤ 6143 := hM.2.2.2.2.2.2.2.2.2.2.2.2.2.2.2.2.1
  have hM_high : 0 ≤ m_high M ∧ m_high M ≤ 8000 := hM.2.2.2.2.2.2.2.2.2.2.2.2.2.2.2.2.2.1
  have hM_pairs : ∀ j : Int, 0 ≤ j → j < 1000 → 0 ≤ m_pairs M j ∧ m_pairs M j ≤ 239 := hM.2.2.2.2.2.2.2.2.2.2.2.2.2.2.2.2.2.2.1
  have hM_told : 0 ≤ m_told M ∧ m_told M ≤ 1000 := hM.2.2.2.2.2.2.2.2.2.2.2.2.2.2.2.2.2.2.2.1
  have hM_text : ∀ j : Int, 0 ≤ j → j < 120 → 0 ≤ m_text M j ∧ m_text M j ≤ 127 := hM.2.2.2.2.2.2.2.2.2.2.2.2.2.2.2.2.2.2.2.2.1
  have hM_typed : 0 ≤ m_typed M ∧ m_typed M ≤ 120 := hM.2.2.2.2.2.2.2.2.2.2.2.2.2.2.2.2.2.2.2.2.2.1
  have hM_orders : ∀ j : Int, 0 ≤ j → j < 300 → 0 ≤ m_orders M j ∧ m_orders M j ≤ 999 := hM.2.2.2.2.2.2.2.2.2.2.2.2.2.2.2.2.2.2.2.2.2.2.1
  have hM_written : 0 ≤ m_written M ∧ m_written M ≤ 60 := hM.2.2.2.2.2.2.2.2.2.2.2.2.2.2.2.2.2.2.2.2.2.2.2.1
  have hM_look : 0 ≤ m_look M ∧ m_look M ≤ 120 := hM.2.2.2.2.2.2.2.2.2.2.2.2.2.2.2.2.2.2.2.2.2.2.2.2
  have hN_0 := hN.1
  have hN_1 := hN.2.1
  have hN_2 := hN.2.2.1
  have hN_3 := hN.2.2.2.1
  refine opq (mKn M) (fun K hK => ?_)
  have hKk := mKn_ok hM hN hWf
  rw [hK] at hKk
  have hKo : mOk K := hKk.1
  have hKn : m_now K = m_now M := hKk.2
  have hKN : nOk (m_now K) := by rw [hKn]; exact hN
  have hKN_0 := hKN.1
  have hKN_1 := hKN.2.1
  have hKN_2 := hKN.2.2.1
  have hKN_3 := hKN.2.2.2.1
  have hKW : nWf (m_now K) := by rw [hKn]; exact hWf
  refine opq (mLo K) (fun K2 hK2 => ?_)
  have hK2o : mOk K2 := by rw [← hK2]; exact mLo_ok hKo hKN hKW
  have hK2n : m_now K2 = m_now M := by rw [← hK2]; exact hKn
  have hK2N : nOk (m_now K2) := by rw [hK2n]; exact hN
  have hK2N_1 := hK2N.2.1
  have hK2N_2 := hK2N.2.2.1
  have hKo_refused : ∀ j : Int, 0 ≤ j → j < 3 → 0 ≤ m_refused K j ∧ m_refused K j ≤ 1000000 := hKo.1
  have hKo_states : 0 ≤ m_states K ∧ m_states K ≤ 5 := hKo.2.1
  have hKo_place : ∀ j : Int, 0 ≤ j → j < 1536 → 0 ≤ m_place K j ∧ m_place K j ≤ 1536 := hKo.2.2.1
  have hKo_startFact : ∀ j : Int, 0 ≤ j → j < 1536 → 0 ≤ m_startFact K j ∧ m_startFact K j ≤ 7 := hKo.2.2.2.1
  have hKo_node : ∀ j : Int, 0 ≤ j → j < 1536 → 0 ≤ m_node K j ∧ m_node K j ≤ 23 := hKo.2.2.2.2.1
  have hKo_fact : ∀ j : Int, 0 ≤ j → j < 1536 → 0 ≤ m_fact K j ∧ m_fact K j ≤ 7 := hKo.2.2.2.2.2.1
  have hKo_ahead : ∀ j : Int, 0 ≤ j → j < 1536 → -1 ≤ m_ahead K j ∧ m_ahead K j ≤ 1535 := hKo.2.2.2.2.2.2.1
  have hKo_inside : ∀ j : Int, 0 ≤ j → j < 1536 → -1 ≤ m_inside K j ∧ m_inside K j ≤ 1535 := hKo.2.2.2.2.2.2.2.1
  have hKo_entries : 0 ≤ m_entries K ∧ m_entries K ≤ 1536 := hKo.2.2.2.2.2.2.2.2.1
  have hKo_caller : ∀ j : Int, 0 ≤ j → j < 16384 → 0 ≤ m_caller K j ∧ m_caller K j ≤ 49151 := hKo.2.2.2.2.2.2.2.2.2.1
  have hKo_following : ∀ j : Int, 0 ≤ j → j < 16384 → -1 ≤ m_following K j ∧ m_following K j ≤ 16383 := hKo.2.2.2.2.2.2.2.2.2.2.1
  have hKo_firstCaller : ∀ j : Int, 0 ≤ j → j < 40 → -1 ≤ m_firstCaller K j ∧ m_firstCaller K j ≤ 16383 := hKo.2.2.2.2.2.2.2.2.2.2.2.1
  have hKo_lastCaller : ∀ j : Int, 0 ≤ j → j < 40 → -1 ≤ m_lastCaller K j ∧ m_lastCaller K j ≤ 16383 := hKo.2.2.2.2.2.2.2.2.2.2.2.2.1
  have hKo_callers : 0 ≤ m_callers K ∧ m_callers K ≤ 16384 := hKo.2.2.2.2.2.2.2.2.2.2.2.2.2.1
  have hKo_known : 0 ≤ m_known K ∧ m_known K ≤ 1 := hKo.2.2.2.2.2.2.2.2.2.2.2.2.2.2.1
  have hKo_loose : ∀ j : Int, 0 ≤ j → j < 24 → 0 ≤ m_loose K j ∧ m_loose K j ≤ 255 := hKo.2.2.2.2.2.2.2.2.2.2.2.2.2.2.2.1
  have hKo_stack : ∀ j : Int, 0 ≤ j → j < 8000 → 0 ≤ m_stack K j ∧ m_stack K j ≤ 6143 := hKo.2.2.2.2.2.2.2.2.2.2.2.2.2.2.2.2.1
  have hKo_high : 0 ≤ m_high K ∧ m_high K ≤ 8000 := hKo.2.2.2.2.2.2.2.2.2.2.2.2.2.2.2.2.2.1
  have hKo_pairs : ∀ j : Int, 0 ≤ j → j < 1000 → 0 ≤ m_pairs K j ∧ m_pairs K j ≤ 239 := hKo.2.2.2.2.2.2.2.2.2.2.2.2.2.2.2.2.2.2.1
  have hKo_told : 0 ≤ m_told K ∧ m_told K ≤ 1000 := hKo.2.2.2.2.2.2.2.2.2.2.2.2.2.2.2.2.2.2.2.1
  have hKo_text : ∀ j : Int, 0 ≤ j → j < 120 → 0 ≤ m_text K j ∧ m_text K j ≤ 127 := hKo.2.2.2.2.2.2.2.2.2.2.2.2.2.2.2.2.2.2.2.2.1
  have hKo_typed : 0 ≤ m_typed K ∧ m_typed K ≤ 120 := hKo.2.2.2.2.2.2.2.2.2.2.2.2.2.2.2.2.2.2.2.2.2.1
  have hKo_orders : ∀ j : Int, 0 ≤ j → j < 300 → 0 ≤ m_orders K j ∧ m_orders K j ≤ 999 := hKo.2.2.2.2.2.2.2.2.2.2.2.2.2.2.2.2.2.2.2.2.2.2.1
  have hKo_written : 0 ≤ m_written K ∧ m_written K ≤ 60 := hKo.2.2.2.2.2.2.2.2.2.2.2.2.2.2.2.2.2.2.2.2.2.2.2.1
  have hKo_look : 0 ≤ m_look K ∧ m_look K ≤ 120 := hKo.2.2.2.2.2.2.2.2.2.2.2.2.2.2.2.2.2.2.2.2.2.2.2.2
  have hK2o_refused : ∀ j : Int, 0 ≤ j → j < 3 → 0 ≤ m_refused K2 j ∧ m_refused K2 j ≤ 1000000 := hK2o.1
  have hK2o_states : 0 ≤ m_states K2 ∧ m_states K2 ≤ 5 := hK2o.2.1
  have hK2o_place : ∀ j : Int, 0 ≤ j → j < 1536 → 0 ≤ m_place K2 j ∧ m_place K2 j ≤ 1536 := hK2o.2.2.1
  have hK2o_startFact : ∀ j : Int, 0 ≤ j → j < 1536 → 0 ≤ m_startFact K2 j ∧ m_startFact K2 j ≤ 7 := hK2o.2.2.2.1
  have hK2o_node : ∀ j : Int, 0 ≤ j → j < 1536 → 0 ≤ m_node K2 j ∧ m_node K2 j ≤ 23 := hK2o.2.2.2.2.1
  have hK2o_fact : ∀ j : Int, 0 ≤ j → j < 1536 → 0 ≤ m_fact K2 j ∧ m_fact K2 j ≤ 7 := hK2o.2.2.2.2.2.1
  have hK2o_ahead : ∀ j : Int, 0 ≤ j → j < 1536 → -1 ≤ m_ahead K2 j ∧ m_ahead K2 j ≤ 1535 := hK2o.2.2.2.2.2.2.1
  have hK2o_inside : ∀ j : Int, 0 ≤ j → j < 1536 → -1 ≤ m_inside K2 j ∧ m_inside K2 j ≤ 1535 := hK2o.2.2.2.2.2.2.2.1
  have hK2o_entries : 0 ≤ m_entries K2 ∧ m_entries K2 ≤ 1536 := hK2o.2.2.2.2.2.2.2.2.1
  have hK2o_caller : ∀ j : Int, 0 ≤ j → j < 16384 → 0 ≤ m_caller K2 j ∧ m_caller K2 j ≤ 49151 := hK2o.2.2.2.2.2.2.2.2.2.1
  have hK2o_following : ∀ j : Int, 0 ≤ j → j < 16384 → -1 ≤ m_following K2 j ∧ m_following K2 j ≤ 16383 := hK2o.2.2.2.2.2.2.2.2.2.2.1
  have hK2o_firstCaller : ∀ j : Int, 0 ≤ j → j < 40 → -1 ≤ m_firstCaller K2 j ∧ m_firstCaller K2 j ≤ 16383 := hK2o.2.2.2.2.2.2.2.2.2.2.2.1
  have hK2o_lastCaller : ∀ j : Int, 0 ≤ j → j < 40 → -1 ≤ m_lastCaller K2 j ∧ m_lastCaller K2 j ≤ 16383 := hK2o.2.2.2.2.2.2.2.2.2.2.2.2.1
  have hK2o_callers : 0 ≤ m_callers K2 ∧ m_callers K2 ≤ 16384 := hK2o.2.2.2.2.2.2.2.2.2.2.2.2.2.1
  have hK2o_known : 0 ≤ m_known K2 ∧ m_known K2 ≤ 1 := hK2o.2.2.2.2.2.2.2.2.2.2.2.2.2.2.1
  have hK2o_loose : ∀ j : Int, 0 ≤ j → j < 24 → 0 ≤ m_loose K2 j ∧ m_loose K2 j ≤ 255 := hK2o.2.2.2.2.2.2.2.2.2.2.2.2.2.2.2.1
  have hK2o_stack : ∀ j : Int, 0 ≤ j → j < 8000 → 0 ≤ m_stack K2 j ∧ m_stack K2 j ≤ 6143 := hK2o.2.2.2.2.2.2.2.2.2.2.2.2.2.2.2.2.1
  have hK2o_high : 0 ≤ m_high K2 ∧ m_high K2 ≤ 8000 := hK2o.2.2.2.2.2.2.2.2.2.2.2.2.2.2.2.2.2.1
  have hK2o_pairs : ∀ j : Int, 0 ≤ j → j < 1000 → 0 ≤ m_pairs K2 j ∧ m_pairs K2 j ≤ 239 := hK2o.2.2.2.2.2.2.2.2.2.2.2.2.2.2.2.2.2.2.1
  have hK2o_told : 0 ≤ m_told K2 ∧ m_told K2 ≤ 1000 := hK2o.2.2.2.2.2.2.2.2.2.2.2.2.2.2.2.2.2.2.2.1
  have hK2o_text : ∀ j : Int, 0 ≤ j → j < 120 → 0 ≤ m_text K2 j ∧ m_text K2 j ≤ 127 := hK2o.2.2.2.2.2.2.2.2.2.2.2.2.2.2.2.2.2.2.2.2.1
  have hK2o_typed : 0 ≤ m_typed K2 ∧ m_typed K2 ≤ 120 := hK2o.2.2.2.2.2.2.2.2.2.2.2.2.2.2.2.2.2.2.2.2.2.1
  have hK2o_orders : ∀ j : Int, 0 ≤ j → j < 300 → 0 ≤ m_orders K2 j ∧ m_orders K2 j ≤ 999 := hK2o.2.2.2.2.2.2.2.2.2.2.2.2.2.2.2.2.2.2.2.2.2.2.1
  have hK2o_written : 0 ≤ m_written K2 ∧ m_written K2 ≤ 60 := hK2o.2.2.2.2.2.2.2.2.2.2.2.2.2.2.2.2.2.2.2.2.2.2.2.1
  have hK2o_look : 0 ≤ m_look K2 ∧ m_look K2 ≤ 120 := hK2o.2.2.2.2.2.2.2.2.2.2.2.2.2.2.2.2.2.2.2.2.2.2.2.2
  refine r_ldc2 (v := lI 1807) C kc_927 dX5_digest_0 ?_
  refine r_lstore_n C [(1, .long (lI (1807))), (0, .ref (o))] dX5_digest_3 hl (by decide) rfl (fun ls hl => ?_)
  refine r_iconst (z := 0) C dX5_digest_4 rfl ?_
  refine r_istore_n C [(3, .int (iI (0))), (1, .long (lI (1807))), (0, .ref (o))] dX5_digest_5 hl (by decide) rfl (fun ls hl => ?_)
  have hloop6 : ∀ (k6 : Nat) (w h : Int) (hkk : w + k6 = 5) (hw : 0 ≤ w) (hq1 : gTold M 1807 = it (fun k h => 31 * h + mTold M k) k6 w h) (H : Heap) (locs : List Loc) (ls : Array Slot), HW g A zs.heap (mF g o ad (m_refused M) (m_now M) (m_kept M) (m_states M) (m_place M) (m_startFact M) (m_node M) (m_fact M) (m_ahead M) (m_inside M) (m_entries M) (m_caller M) (m_following M) (m_firstCaller M) (m_lastCaller M) (m_callers M) (m_known M) (m_loose M) (m_stack M) (m_high M) (m_pairs M) (m_told M) (m_text M) (m_typed M) (m_orders M) (m_written M) (m_look M)) H locs → lv_has ls 5 [(0, .ref (o)), (1, .long (lI (h))), (3, .int (iI (w)))] → W zp l ze (rmm 8 191) zs zm (List.toArray [.ref (o)]) zb zt zc H locs 0 0 (MQ zb (QW g (mF g o ad (m_refused M) (m_now M) (m_kept M) (m_states M) (m_place M) (m_startFact M) (m_node M) (m_fact M) (m_ahead M) (m_inside M) (m_entries M) (m_caller M) (m_following M) (m_firstCaller M) (m_lastCaller M) (m_callers M) (m_known M) (m_loose M) (m_stack M) (m_high M) (m_pairs M) (m_told M) (m_text M) (m_typed M) (m_orders M) (m_written M) (m_look M)) (mF g o ad (m_refused (mLo (mKn M))) (m_now (mLo (mKn M))) (m_kept (mLo (mKn M))) (m_states (mLo (mKn M))) (m_place (mLo (mKn M))) (m_startFact (mLo (mKn M))) (m_node (mLo (mKn M))) (m_fact (mLo (mKn M))) (m_ahead (mLo (mKn M))) (m_inside (mLo (mKn M))) (m_entries (mLo (mKn M))) (m_caller (mLo (mKn M))) (m_following (mLo (mKn M))) (m_firstCaller (mLo (mKn M))) (m_lastCaller (mLo (mKn M))) (m_callers (mLo (mKn M))) (m_known (mLo (mKn M))) (m_loose (mLo (mKn M))) (m_stack (mLo (mKn M))) (m_high (mLo (mKn M))) (m_pairs (mLo (mKn M))) (m_told (mLo (mKn M))) (m_text (mLo (mKn M))) (m_typed (mLo (mKn M))) (m_orders (mLo (mKn M))) (m_written (mLo (mKn M))) (m_look (mLo (mKn M)))) zs.heap.size (some (.long (lI (mDigest M))))) (List.toArray [.ref (o)]) zs 0 0 A) (F0 zm 6 ls []) := by
    intro k6
    induction k6 with
    | zero =>
      intro w h hkk hw hq1 H locs ls hW hl
      refine r_iload_n C dX5_digest_6 hl 2 rfl ?_
      refine r_iconst (z := 5) C dX5_digest_7 rfl ?_
      refine r_icmp_ge C 30 dX5_digest_8 (by decide) (by omega) (by omega) (fun hc1 => ?_) (fun hc1 => ?_)
      · skip
        refine r_iconst (z := 0) C dX5_digest_30 rfl ?_
        refine r_istore_n C [(3, .int (iI (0))), (0, .ref (o)), (1, .long (lI (h)))] dX5_digest_31 hl (by decide) rfl (fun ls hl => ?_)
        have hloop32 : ∀ (k32 : Nat) (w h2 : Int) (X : Md) (hkk2 : w + k32 = 6) (hw2 : 0 ≤ w) (hXo : mOk X) (hXn : m_now X = m_now M) (hXK : mKn X = K) (hX9 : w = 0 ∨ (0 < w ∧ X = K)) (hq2 : gCount K h = it (fun k h => 31 * h + mCountOf K k) k32 w h2) (H : Heap) (locs : List Loc) (ls : Array Slot), HW g A zs.heap (mF g o ad (m_refused X) (m_now X) (m_kept X) (m_states X) (m_place X) (m_startFact X) (m_node X) (m_fact X) (m_ahead X) (m_inside X) (m_entries X) (m_caller X) (m_following X) (m_firstCaller X) (m_lastCaller X) (m_callers X) (m_known X) (m_loose X) (m_stack X) (m_high X) (m_pairs X) (m_told X) (m_text X) (m_typed X) (m_orders X) (m_written X) (m_look X)) H locs → lv_has ls 5 [(0, .ref (o)), (1, .long (lI (h2))), (3, .int (iI (w)))] → W zp l ze (rmm 8 191) zs zm (List.toArray [.ref (o)]) zb zt zc H locs 0 0 (MQ zb (QW g (mF g o ad (m_refused M) (m_now M) (m_kept M) (m_states M) (m_place M) (m_startFact M) (m_node M) (m_fact M) (m_ahead M) (m_inside M) (m_entries M) (m_caller M) (m_following M) (m_firstCaller M) (m_lastCaller M) (m_callers M) (m_known M) (m_loose M) (m_stack M) (m_high M) (m_pairs M) (m_told M) (m_text M) (m_typed M) (m_orders M) (m_written M) (m_look M)) (mF g o ad (m_refused (mLo (mKn M))) (m_now (mLo (mKn M))) (m_kept (mLo (mKn M))) (m_states (mLo (mKn M))) (m_place (mLo (mKn M))) (m_startFact (mLo (mKn M))) (m_node (mLo (mKn M))) (m_fact (mLo (mKn M))) (m_ahead (mLo (mKn M))) (m_inside (mLo (mKn M))) (m_entries (mLo (mKn M))) (m_caller (mLo (mKn M))) (m_following (mLo (mKn M))) (m_firstCaller (mLo (mKn M))) (m_lastCaller (mLo (mKn M))) (m_callers (mLo (mKn M))) (m_known (mLo (mKn M))) (m_loose (mLo (mKn M))) (m_stack (mLo (mKn M))) (m_high (mLo (mKn M))) (m_pairs (mLo (mKn M))) (m_told (mLo (mKn M))) (m_text (mLo (mKn M))) (m_typed (mLo (mKn M))) (m_orders (mLo (mKn M))) (m_written (mLo (mKn M))) (m_look (mLo (mKn M)))) zs.heap.size (some (.long (lI (mDigest M))))) (List.toArray [.ref (o)]) zs 0 0 A) (F0 zm 32 ls []) := by
          intro k32
          induction k32 with
          | zero =>
            intro w h2 X hkk2 hw2 hXo hXn hXK hX9 hq2 H locs ls hW hl
            obtain ⟨hXo_refused, hXo_states, hXo_place, hXo_startFact, hXo_node, hXo_fact, hXo_ahead, hXo_inside, hXo_entries, hXo_caller, hXo_following, hXo_firstCaller, hXo_lastCaller, hXo_callers, hXo_known, hXo_loose, hXo_stack, hXo_high, hXo_pairs, hXo_told, hXo_text, hXo_typed, hXo_orders, hXo_written, hXo_look⟩ := id hXo
            have hXN : nOk (m_now X) := by rw [hXn]; exact hN
            have hXW : nWf (m_now X) := by rw [hXn]; exact hWf
            refine r_iload_n C dX5_digest_32 hl 2 rfl ?_
            refine r_bipush (z := 6) C dX5_digest_33 rfl ?_
            refine r_icmp_ge C 57 dX5_digest_35 (by decide) (by omega) (by omega) (fun hc2 => ?_) (fun hc2 => ?_)
            · skip
              have hXeq : X = K := hX9.elim (fun h9 => absurd h9 (by omega)) (fun h9 => h9.2)
              rw [hXeq] at hW
              refine r_aload_n C dX5_digest_57 hl 0 rfl ?_
              refine r_callW (rest := []) (r := none) (wr := []) (ws2 := mF g o ad (m_refused K2) (m_now K2) (m_kept K2) (m_states K2) (m_place K2) (m_startFact K2) (m_node K2) (m_fact K2) (m_ahead K2) (m_inside K2) (m_entries K2) (m_caller K2) (m_following K2) (m_firstCaller K2) (m_lastCaller K2) (m_callers K2) (m_known K2) (m_loose K2) (m_stack K2) (m_high K2) (m_pairs K2) (m_told K2) (m_text K2) (m_typed K2) (m_orders K2) (m_written K2) (m_look K2)) (st1 := []) C hl.1 hW hA (c_X5_loosensK l g o ad K K2 (by assumption) (by assumption) (by assumption) hK2) v_X5_203 rfl [0, 1, 2, 3, 4, 5, 6, 7, 8, 9, 10, 11, 12, 13, 14, 15, 16, 17, 18] [] [0, 1, 2, 3, 4, 5, 6, 7, 8, 9, 10, 11, 12, 13, 14, 15, 16, 17, 18] rfl rfl (by decide) (by decide) rfl rfl 0 rfl rfl rfl (by decide) (by decide) (Nat.le_of_ble_eq_true rfl) dX5_digest_58 rfl rfl (fun H locs hW => ?_)
              refine r_iconst (z := 0) C dX5_digest_61 rfl ?_
              refine r_istore_n C [(3, .int (iI (0))), (0, .ref (o)), (1, .long (lI (h2)))] dX5_digest_62 hl (by decide) rfl (fun ls hl => ?_)
              have hloop63 : ∀ (k63 : Nat) (n h3 : Int) (hkk3 : n + k63 = m_now K2 1) (hn : 0 ≤ n) (hq3 : gNodes K2 h2 = it (gNodeF K2) k63 n h3) (H : Heap) (locs : List Loc) (ls : Array Slot), HW g A zs.heap (mF g o ad (m_refused K2) (m_now K2) (m_kept K2) (m_states K2) (m_place K2) (m_startFact K2) (m_node K2) (m_fact K2) (m_ahead K2) (m_inside K2) (m_entries K2) (m_caller K2) (m_following K2) (m_firstCaller K2) (m_lastCaller K2) (m_callers K2) (m_known K2) (m_loose K2) (m_stack K2) (m_high K2) (m_pairs K2) (m_told K2) (m_text K2) (m_typed K2) (m_orders K2) (m_written K2) (m_look K2)) H locs → lv_has ls 5 [(0, .ref (o)), (1, .long (lI (h3))), (3, .int (iI (n)))] → W zp l ze (rmm 8 191) zs zm (List.toArray [.ref (o)]) zb zt zc H locs 0 0 (MQ zb (QW g (mF g o ad (m_refused M) (m_now M) (m_kept M) (m_states M) (m_place M) (m_startFact M) (m_node M) (m_fact M) (m_ahead M) (m_inside M) (m_entries M) (m_caller M) (m_following M) (m_firstCaller M) (m_lastCaller M) (m_callers M) (m_known M) (m_loose M) (m_stack M) (m_high M) (m_pairs M) (m_told M) (m_text M) (m_typed M) (m_orders M) (m_written M) (m_look M)) (mF g o ad (m_refused (mLo (mKn M))) (m_now (mLo (mKn M))) (m_kept (mLo (mKn M))) (m_states (mLo (mKn M))) (m_place (mLo (mKn M))) (m_startFact (mLo (mKn M))) (m_node (mLo (mKn M))) (m_fact (mLo (mKn M))) (m_ahead (mLo (mKn M))) (m_inside (mLo (mKn M))) (m_entries (mLo (mKn M))) (m_caller (mLo (mKn M))) (m_following (mLo (mKn M))) (m_firstCaller (mLo (mKn M))) (m_lastCaller (mLo (mKn M))) (m_callers (mLo (mKn M))) (m_known (mLo (mKn M))) (m_loose (mLo (mKn M))) (m_stack (mLo (mKn M))) (m_high (mLo (mKn M))) (m_pairs (mLo (mKn M))) (m_told (mLo (mKn M))) (m_text (mLo (mKn M))) (m_typed (mLo (mKn M))) (m_orders (mLo (mKn M))) (m_written (mLo (mKn M))) (m_look (mLo (mKn M)))) zs.heap.size (some (.long (lI (mDigest M))))) (List.toArray [.ref (o)]) zs 0 0 A) (F0 zm 63 ls []) := by
                intro k63
                induction k63 with
                | zero =>
                  intro n h3 hkk3 hn hq3 H locs ls hW hl
                  refine r_iload_n C dX5_digest_63 hl 2 rfl ?_
                  refine r_aload_n C dX5_digest_64 hl 0 rfl ?_
                  refine r_get (v := .ref (ad 1)) C f_X5_13 hW.1 0 rfl rfl dX5_digest_65 ?_
                  refine r_iconst (z := 1) C dX5_digest_68 rfl ?_
                  refine r_iald (f := m_now K2) C hW.1 2 rfl (Nat.le_of_ble_eq_true rfl) (by omega) dX5_digest_69 ?_
                  have hr3 := hK2N.2.1
                  refine r_icmp_ge C 132 dX5_digest_70 (by decide) (by omega) (by omega) (fun hc4 => ?_) (fun hc4 => ?_)
                  · skip
                    refine r_iconst (z := 0) C dX5_digest_132 rfl ?_
                    refine r_istore_n C [(3, .int (iI (0))), (0, .ref (o)), (1, .long (lI (h3)))] dX5_digest_133 hl (by decide) rfl (fun ls hl => ?_)
                    have hloop134 : ∀ (k134 : Nat) (e h4 : Int) (hkk4 : e + k134 = m_now K2 2) (he : 0 ≤ e) (hq4 : gEdges K2 h3 = it (fun e h => gEdgeB K2 e (gEdgeA K2 e h)) k134 e h4) (H : Heap) (locs : List Loc) (ls : Array Slot), HW g A zs.heap (mF g o ad (m_refused K2) (m_now K2) (m_kept K2) (m_states K2) (m_place K2) (m_startFact K2) (m_node K2) (m_fact K2) (m_ahead K2) (m_inside K2) (m_entries K2) (m_caller K2) (m_following K2) (m_firstCaller K2) (m_lastCaller K2) (m_callers K2) (m_known K2) (m_loose K2) (m_stack K2) (m_high K2) (m_pairs K2) (m_told K2) (m_text K2) (m_typed K2) (m_orders K2) (m_written K2) (m_look K2)) H locs → lv_has ls 5 [(0, .ref (o)), (1, .long (lI (h4))), (3, .int (iI (e)))] → W zp l ze (rmm 8 191) zs zm (List.toArray [.ref (o)]) zb zt zc H locs 0 0 (MQ zb (QW g (mF g o ad (m_refused M) (m_now M) (m_kept M) (m_states M) (m_place M) (m_startFact M) (m_node M) (m_fact M) (m_ahead M) (m_inside M) (m_entries M) (m_caller M) (m_following M) (m_firstCaller M) (m_lastCaller M) (m_callers M) (m_known M) (m_loose M) (m_stack M) (m_high M) (m_pairs M) (m_told M) (m_text M) (m_typed M) (m_orders M) (m_written M) (m_look M)) (mF g o ad (m_refused (mLo (mKn M))) (m_now (mLo (mKn M))) (m_kept (mLo (mKn M))) (m_states (mLo (mKn M))) (m_place (mLo (mKn M))) (m_startFact (mLo (mKn M))) (m_node (mLo (mKn M))) (m_fact (mLo (mKn M))) (m_ahead (mLo (mKn M))) (m_inside (mLo (mKn M))) (m_entries (mLo (mKn M))) (m_caller (mLo (mKn M))) (m_following (mLo (mKn M))) (m_firstCaller (mLo (mKn M))) (m_lastCaller (mLo (mKn M))) (m_callers (mLo (mKn M))) (m_known (mLo (mKn M))) (m_loose (mLo (mKn M))) (m_stack (mLo (mKn M))) (m_high (mLo (mKn M))) (m_pairs (mLo (mKn M))) (m_told (mLo (mKn M))) (m_text (mLo (mKn M))) (m_typed (mLo (mKn M))) (m_orders (mLo (mKn M))) (m_written (mLo (mKn M))) (m_look (mLo (mKn M)))) zs.heap.size (some (.long (lI (mDigest M))))) (List.toArray [.ref (o)]) zs 0 0 A) (F0 zm 134 ls []) := by
                      intro k134
                      induction k134 with
                      | zero =>
                        intro e h4 hkk4 he hq4 H locs ls hW hl
                        refine r_iload_n C dX5_digest_134 hl 2 rfl ?_
                        refine r_aload_n C dX5_digest_135 hl 0 rfl ?_
                        refine r_get (v := .ref (ad 1)) C f_X5_13 hW.1 0 rfl rfl dX5_digest_136 ?_
                        refine r_iconst (z := 2) C dX5_digest_139 rfl ?_
                        refine r_iald (f := m_now K2) C hW.1 2 rfl (Nat.le_of_ble_eq_true rfl) (by omega) dX5_digest_140 ?_
                        have hr5 := hK2N.2.2.1
                        refine r_icmp_ge C 236 dX5_digest_141 (by decide) (by omega) (by omega) (fun hc6 => ?_) (fun hc6 => ?_)
                        · skip
                          refine r_lload_n C dX5_digest_236 hl 1 rfl ?_
                          exact MW_lret C hAe hrt hlk hW dX5_digest_237 (lww (by unfold mDigest; rw [hK, hK2, show gTold M 1807 = h from hq1, show gCount K h = h2 from hq2, show gNodes K2 h2 = h3 from hq3]; exact hq4.symm)) (by rw [hK, hK2])
                        · exact absurd hc6 (by omega)
                      | succ k134 ih134 =>
                        intro e h4 hkk4 he hq4 H locs ls hW hl
                        refine r_iload_n C dX5_digest_134 hl 2 rfl ?_
                        refine r_aload_n C dX5_digest_135 hl 0 rfl ?_
                        refine r_get (v := .ref (ad 1)) C f_X5_13 hW.1 0 rfl rfl dX5_digest_136 ?_
                        refine r_iconst (z := 2) C dX5_digest_139 rfl ?_
                        refine r_iald (f := m_now K2) C hW.1 2 rfl (Nat.le_of_ble_eq_true rfl) (by omega) dX5_digest_140 ?_
                        have hr7 := hK2N.2.2.1
                        refine r_icmp_ge C 236 dX5_digest_141 (by decide) (by omega) (by omega) (fun hc8 => ?_) (fun hc8 => ?_)
                        · exact absurd hc8 (by omega)
                        · skip
                          refine r_iconst (z := 0) C dX5_digest_144 rfl ?_
                          refine r_istore C [(4, .int (iI (0))), (0, .ref (o)), (1, .long (lI (h4))), (3, .int (iI (e)))] dX5_digest_145 hl (by decide) rfl (fun ls hl => ?_)
                          have hloop147 : ∀ (k147 : Nat) (k h5 : Int) (hkk5 : k + k147 = 3) (hk5 : 0 ≤ k) (hq5 : gEdgeA K2 e h4 = it (fun k h => 31 * h + m_now K2 (62 + 27 * e + k)) k147 k h5) (H : Heap) (locs : List Loc) (ls : Array Slot), HW g A zs.heap (mF g o ad (m_refused K2) (m_now K2) (m_kept K2) (m_states K2) (m_place K2) (m_startFact K2) (m_node K2) (m_fact K2) (m_ahead K2) (m_inside K2) (m_entries K2) (m_caller K2) (m_following K2) (m_firstCaller K2) (m_lastCaller K2) (m_callers K2) (m_known K2) (m_loose K2) (m_stack K2) (m_high K2) (m_pairs K2) (m_told K2) (m_text K2) (m_typed K2) (m_orders K2) (m_written K2) (m_look K2)) H locs → lv_has ls 5 [(0, .ref (o)), (1, .long (lI (h5))), (3, .int (iI (e))), (4, .int (iI (k)))] → W zp l ze (rmm 8 191) zs zm (List.toArray [.ref (o)]) zb zt zc H locs 0 0 (MQ zb (QW g (mF g o ad (m_refused M) (m_now M) (m_kept M) (m_states M) (m_place M) (m_startFact M) (m_node M) (m_fact M) (m_ahead M) (m_inside M) (m_entries M) (m_caller M) (m_following M) (m_firstCaller M) (m_lastCaller M) (m_callers M) (m_known M) (m_loose M) (m_stack M) (m_high M) (m_pairs M) (m_told M) (m_text M) (m_typed M) (m_orders M) (m_written M) (m_look M)) (mF g o ad (m_refused (mLo (mKn M))) (m_now (mLo (mKn M))) (m_kept (mLo (mKn M))) (m_states (mLo (mKn M))) (m_place (mLo (mKn M))) (m_startFact (mLo (mKn M))) (m_node (mLo (mKn M))) (m_fact (mLo (mKn M))) (m_ahead (mLo (mKn M))) (m_inside (mLo (mKn M))) (m_entries (mLo (mKn M))) (m_caller (mLo (mKn M))) (m_following (mLo (mKn M))) (m_firstCaller (mLo (mKn M))) (m_lastCaller (mLo (mKn M))) (m_callers (mLo (mKn M))) (m_known (mLo (mKn M))) (m_loose (mLo (mKn M))) (m_stack (mLo (mKn M))) (m_high (mLo (mKn M))) (m_pairs (mLo (mKn M))) (m_told (mLo (mKn M))) (m_text (mLo (mKn M))) (m_typed (mLo (mKn M))) (m_orders (mLo (mKn M))) (m_written (mLo (mKn M))) (m_look (mLo (mKn M)))) zs.heap.size (some (.long (lI (mDigest M))))) (List.toArray [.ref (o)]) zs 0 0 A) (F0 zm 147 ls []) := by
                            intro k147
                            induction k147 with
                            | zero =>
                              intro k h5 hkk5 hk5 hq5 H locs ls hW hl
                              refine r_iload C dX5_digest_147 hl 3 rfl ?_
                              refine r_iconst (z := 3) C dX5_digest_149 rfl ?_
                              refine r_icmp_ge C 174 dX5_digest_150 (by decide) (by omega) (by omega) (fun hc9 => ?_) (fun hc9 => ?_)
                              · skip
                                refine r_iconst (z := 0) C dX5_digest_174 rfl ?_
                                refine r_istore C [(4, .int (iI (0))), (0, .ref (o)), (1, .long (lI (h5))), (3, .int (iI (e)))] dX5_digest_175 hl (by decide) rfl (fun ls hl => ?_)
                                have hloop177 : ∀ (k177 : Nat) (k h6 : Int) (hkk6 : k + k177 = (if m_now K2 (62 + 27 * e + 2) = -1 then 8 else 24 : Int)) (hk6 : 0 ≤ k) (hq6 : gEdgeB K2 e h5 = it (fun k h => 31 * h + m_now K2 (62 + 27 * e + 3 + k)) k177 k h6) (H : Heap) (locs : List Loc) (ls : Array Slot), HW g A zs.heap (mF g o ad (m_refused K2) (m_now K2) (m_kept K2) (m_states K2) (m_place K2) (m_startFact K2) (m_node K2) (m_fact K2) (m_ahead K2) (m_inside K2) (m_entries K2) (m_caller K2) (m_following K2) (m_firstCaller K2) (m_lastCaller K2) (m_callers K2) (m_known K2) (m_loose K2) (m_stack K2) (m_high K2) (m_pairs K2) (m_told K2) (m_text K2) (m_typed K2) (m_orders K2) (m_written K2) (m_look K2)) H locs → lv_has ls 5 [(0, .ref (o)), (1, .long (lI (h6))), (3, .int (iI (e))), (4, .int (iI (k)))] → W zp l ze (rmm 8 191) zs zm (List.toArray [.ref (o)]) zb zt zc H locs 0 0 (MQ zb (QW g (mF g o ad (m_refused M) (m_now M) (m_kept M) (m_states M) (m_place M) (m_startFact M) (m_node M) (m_fact M) (m_ahead M) (m_inside M) (m_entries M) (m_caller M) (m_following M) (m_firstCaller M) (m_lastCaller M) (m_callers M) (m_known M) (m_loose M) (m_stack M) (m_high M) (m_pairs M) (m_told M) (m_text M) (m_typed M) (m_orders M) (m_written M) (m_look M)) (mF g o ad (m_refused (mLo (mKn M))) (m_now (mLo (mKn M))) (m_kept (mLo (mKn M))) (m_states (mLo (mKn M))) (m_place (mLo (mKn M))) (m_startFact (mLo (mKn M))) (m_node (mLo (mKn M))) (m_fact (mLo (mKn M))) (m_ahead (mLo (mKn M))) (m_inside (mLo (mKn M))) (m_entries (mLo (mKn M))) (m_caller (mLo (mKn M))) (m_following (mLo (mKn M))) (m_firstCaller (mLo (mKn M))) (m_lastCaller (mLo (mKn M))) (m_callers (mLo (mKn M))) (m_known (mLo (mKn M))) (m_loose (mLo (mKn M))) (m_stack (mLo (mKn M))) (m_high (mLo (mKn M))) (m_pairs (mLo (mKn M))) (m_told (mLo (mKn M))) (m_text (mLo (mKn M))) (m_typed (mLo (mKn M))) (m_orders (mLo (mKn M))) (m_written (mLo (mKn M))) (m_look (mLo (mKn M)))) zs.heap.size (some (.long (lI (mDigest M))))) (List.toArray [.ref (o)]) zs 0 0 A) (F0 zm 177 ls []) := by
                                  intro k177
                                  induction k177 with
                                  | zero =>
                                    intro k h6 hkk6 hk6 hq6 H locs ls hW hl
                                    have hnb : (if m_now K2 (62 + 27 * e + 2) = -1 then 8 else 24 : Int) = 8 ∨ (if m_now K2 (62 + 27 * e + 2) = -1 then 8 else 24 : Int) = 24 := by split <;> omega
                                    refine r_iload C dX5_digest_177 hl 3 rfl ?_
                                    refine r_aload_n C dX5_digest_179 hl 0 rfl ?_
                                    refine r_iload_n C dX5_digest_180 hl 2 rfl ?_
                                    refine r_iconst (z := 2) C dX5_digest_181 rfl ?_
                                    refine r_callR (rest := [.int (iI (k))]) (r := .int (iI ((m_now K2) (62 + 27 * e + 2)))) C hl.1 (c_X5_edgeOf l g o ad (m_refused K2) (m_now K2) (m_kept K2) (m_states K2) (m_place K2) (m_startFact K2) (m_node K2) (m_fact K2) (m_ahead K2) (m_inside K2) (m_entries K2) (m_caller K2) (m_following K2) (m_firstCaller K2) (m_lastCaller K2) (m_callers K2) (m_known K2) (m_loose K2) (m_stack K2) (m_high K2) (m_pairs K2) (m_told K2) (m_text K2) (m_typed K2) (m_orders K2) (m_written K2) (m_look K2) e 2 (by assumption) (show 0 ≤ e ∧ e < 32 by omega) (show 0 ≤ 2 ∧ 2 < 3 by omega)) v_X5_118 rfl hW.1 0 rfl rfl rfl (by decide) (by decide) (Nat.le_of_ble_eq_true rfl) dX5_digest_182 rfl ?_
                                    have hq10 := nEdge_q ((m_now K2)) e 2 (by assumption) (by omega) (by omega)
                                    refine r_iconst (z := -1) C dX5_digest_185 rfl ?_
                                    refine r_icmp_ne C 194 dX5_digest_186 (by decide) (by omega) (by omega) (fun hc11 => ?_) (fun hc11 => ?_)
                                    · skip
                                      refine r_bipush (z := 24) C dX5_digest_194 rfl ?_
                                      refine r_icmp_ge C 230 dX5_digest_196 (by decide) (by omega) (by omega) (fun hc12 => ?_) (fun hc12 => ?_)
                                      · skip
                                        refine r_iinc (v := e + 1) C [(3, .int (iI (e + 1))), (0, .ref (o)), (1, .long (lI (h6))), (4, .int (iI (k)))] dX5_digest_230 hl 2 rfl (by decide) (by omega) rfl (fun ls hl => ?_)
                                        refine r_goto C 134 dX5_digest_233 (by decide) ?_
                                        exact ih134 (e + 1) h6 (by omega) (by omega) (by rw [hq4, it_s, show gEdgeA K2 e h4 = h5 from hq5, show gEdgeB K2 e h5 = h6 from hq6]) _ _ ls hW (lv_sub hl [1, 2, 0] rfl)
                                      · exact absurd hc12 (by omega)
                                    · skip
                                      refine r_bipush (z := 8) C dX5_digest_189 rfl ?_
                                      refine r_goto C 196 dX5_digest_191 (by decide) ?_
                                      refine r_icmp_ge C 230 dX5_digest_196 (by decide) (by omega) (by omega) (fun hc13 => ?_) (fun hc13 => ?_)
                                      · skip
                                        refine r_iinc (v := e + 1) C [(3, .int (iI (e + 1))), (0, .ref (o)), (1, .long (lI (h6))), (4, .int (iI (k)))] dX5_digest_230 hl 2 rfl (by decide) (by omega) rfl (fun ls hl => ?_)
                                        refine r_goto C 134 dX5_digest_233 (by decide) ?_
                                        exact ih134 (e + 1) h6 (by omega) (by omega) (by rw [hq4, it_s, show gEdgeA K2 e h4 = h5 from hq5, show gEdgeB K2 e h5 = h6 from hq6]) _ _ ls hW (lv_sub hl [1, 2, 0] rfl)
                                      · exact absurd hc13 (by omega)
                                  | succ k177 ih177 =>
                                    intro k h6 hkk6 hk6 hq6 H locs ls hW hl
                                    have hnb : (if m_now K2 (62 + 27 * e + 2) = -1 then 8 else 24 : Int) = 8 ∨ (if m_now K2 (62 + 27 * e + 2) = -1 then 8 else 24 : Int) = 24 := by split <;> omega
                                    refine r_iload C dX5_digest_177 hl 3 rfl ?_
                                    refine r_aload_n C dX5_digest_179 hl 0 rfl ?_
                                    refine r_iload_n C dX5_digest_180 hl 2 rfl ?_
                                    refine r_iconst (z := 2) C dX5_digest_181 rfl ?_
                                    refine r_callR (rest := [.int (iI (k))]) (r := .int (iI ((m_now K2) (62 + 27 * e + 2)))) C hl.1 (c_X5_edgeOf l g o ad (m_refused K2) (m_now K2) (m_kept K2) (m_states K2) (m_place K2) (m_startFact K2) (m_node K2) (m_fact K2) (m_ahead K2) (m_inside K2) (m_entries K2) (m_caller K2) (m_following K2) (m_firstCaller K2) (m_lastCaller K2) (m_callers K2) (m_known K2) (m_loose K2) (m_stack K2) (m_high K2) (m_pairs K2) (m_told K2) (m_text K2) (m_typed K2) (m_orders K2) (m_written K2) (m_look K2) e 2 (by assumption) (show 0 ≤ e ∧ e < 32 by omega) (show 0 ≤ 2 ∧ 2 < 3 by omega)) v_X5_118 rfl hW.1 0 rfl rfl rfl (by decide) (by decide) (Nat.le_of_ble_eq_true rfl) dX5_digest_182 rfl ?_
                                    have hq14 := nEdge_q ((m_now K2)) e 2 (by assumption) (by omega) (by omega)
                                    refine r_iconst (z := -1) C dX5_digest_185 rfl ?_
                                    refine r_icmp_ne C 194 dX5_digest_186 (by decide) (by omega) (by omega) (fun hc15 => ?_) (fun hc15 => ?_)
                                    · skip
                                      refine r_bipush (z := 24) C dX5_digest_194 rfl ?_
                                      refine r_icmp_ge C 230 dX5_digest_196 (by decide) (by omega) (by omega) (fun hc16 => ?_) (fun hc16 => ?_)
                                      · exact absurd hc16 (by omega)
                                      · skip
                                        refine r_ldc2 (v := lI 31) C kc_928 dX5_digest_199 ?_
                                        refine r_lload_n C dX5_digest_202 hl 1 rfl ?_
                                        refine r_lmul C dX5_digest_203 ?_
                                        refine r_aload_n C dX5_digest_204 hl 0 rfl ?_
                                        refine r_get (v := .ref (ad 1)) C f_X5_13 hW.1 0 rfl rfl dX5_digest_205 ?_
                                        refine r_bipush (z := 62) C dX5_digest_208 rfl ?_
                                        refine r_bipush (z := 27) C dX5_digest_210 rfl ?_
                                        refine r_iload_n C dX5_digest_212 hl 2 rfl ?_
                                        refine r_imul C dX5_digest_213 ?_
                                        refine r_iadd C dX5_digest_214 ?_
                                        refine r_iconst (z := 3) C dX5_digest_215 rfl ?_
                                        refine r_iadd C dX5_digest_216 ?_
                                        refine r_iload C dX5_digest_217 hl 3 rfl ?_
                                        refine r_iadd C dX5_digest_219 ?_
                                        refine r_iald (f := m_now K2) C hW.1 2 rfl (Nat.le_of_ble_eq_true rfl) (by omega) dX5_digest_220 ?_
                                        have hfl := (hK2N.2.2.2.2.2.2 e (by omega) (by omega)).2.2.2 k (by omega) (by omega)
                                        refine r_i2l C (by omega) dX5_digest_221 ?_
                                        refine r_ladd C dX5_digest_222 ?_
                                        refine r_lstore_n C [(1, .long (lI ((31 * h6) + (m_now K2 (((62 + (27 * e)) + 3) + k))))), (0, .ref (o)), (3, .int (iI (e))), (4, .int (iI (k)))] dX5_digest_223 hl (by decide) rfl (fun ls hl => ?_)
                                        refine r_iinc (v := k + 1) C [(4, .int (iI (k + 1))), (1, .long (lI ((31 * h6) + (m_now K2 (((62 + (27 * e)) + 3) + k))))), (0, .ref (o)), (3, .int (iI (e)))] dX5_digest_224 hl 3 rfl (by decide) (by omega) rfl (fun ls hl => ?_)
                                        refine r_goto C 177 dX5_digest_227 (by decide) ?_
                                        exact ih177 (k + 1) _ (by omega) (by omega) (by rw [hq6, it_s]) _ _ ls hW (lv_sub hl [2, 1, 3, 0] rfl)
                                    · skip
                                      refine r_bipush (z := 8) C dX5_digest_189 rfl ?_
                                      refine r_goto C 196 dX5_digest_191 (by decide) ?_
                                      refine r_icmp_ge C 230 dX5_digest_196 (by decide) (by omega) (by omega) (fun hc17 => ?_) (fun hc17 => ?_)
                                      · exact absurd hc17 (by omega)
                                      · skip
                                        refine r_ldc2 (v := lI 31) C kc_928 dX5_digest_199 ?_
                                        refine r_lload_n C dX5_digest_202 hl 1 rfl ?_
                                        refine r_lmul C dX5_digest_203 ?_
                                        refine r_aload_n C dX5_digest_204 hl 0 rfl ?_
                                        refine r_get (v := .ref (ad 1)) C f_X5_13 hW.1 0 rfl rfl dX5_digest_205 ?_
                                        refine r_bipush (z := 62) C dX5_digest_208 rfl ?_
                                        refine r_bipush (z := 27) C dX5_digest_210 rfl ?_
                                        refine r_iload_n C dX5_digest_212 hl 2 rfl ?_
                                        refine r_imul C dX5_digest_213 ?_
                                        refine r_iadd C dX5_digest_214 ?_
                                        refine r_iconst (z := 3) C dX5_digest_215 rfl ?_
                                        refine r_iadd C dX5_digest_216 ?_
                                        refine r_iload C dX5_digest_217 hl 3 rfl ?_
                                        refine r_iadd C dX5_digest_219 ?_
                                        refine r_iald (f := m_now K2) C hW.1 2 rfl (Nat.le_of_ble_eq_true rfl) (by omega) dX5_digest_220 ?_
                                        have hfl := (hK2N.2.2.2.2.2.2 e (by omega) (by omega)).2.2.2 k (by omega) (by omega)
                                        refine r_i2l C (by omega) dX5_digest_221 ?_
                                        refine r_ladd C dX5_digest_222 ?_
                                        refine r_lstore_n C [(1, .long (lI ((31 * h6) + (m_now K2 (((62 + (27 * e)) + 3) + k))))), (0, .ref (o)), (3, .int (iI (e))), (4, .int (iI (k)))] dX5_digest_223 hl (by decide) rfl (fun ls hl => ?_)
                                        refine r_iinc (v := k + 1) C [(4, .int (iI (k + 1))), (1, .long (lI ((31 * h6) + (m_now K2 (((62 + (27 * e)) + 3) + k))))), (0, .ref (o)), (3, .int (iI (e)))] dX5_digest_224 hl 3 rfl (by decide) (by omega) rfl (fun ls hl => ?_)
                                        refine r_goto C 177 dX5_digest_227 (by decide) ?_
                                        exact ih177 (k + 1) _ (by omega) (by omega) (by rw [hq6, it_s]) _ _ ls hW (lv_sub hl [2, 1, 3, 0] rfl)
                                have hnb : (if m_now K2 (62 + 27 * e + 2) = -1 then 8 else 24 : Int) = 8 ∨ (if m_now K2 (62 + 27 * e + 2) = -1 then 8 else 24 : Int) = 24 := by split <;> omega
                                exact hloop177 ((if m_now K2 (62 + 27 * e + 2) = -1 then 8 else 24 : Int)).toNat 0 h5 (by omega) (by omega) rfl _ _ ls hW (lv_sub hl [1, 2, 3, 0] rfl)
                              · exact absurd hc9 (by omega)
                            | succ k147 ih147 =>
                              intro k h5 hkk5 hk5 hq5 H locs ls hW hl
                              refine r_iload C dX5_digest_147 hl 3 rfl ?_
                              refine r_iconst (z := 3) C dX5_digest_149 rfl ?_
                              refine r_icmp_ge C 174 dX5_digest_150 (by decide) (by omega) (by omega) (fun hc18 => ?_) (fun hc18 => ?_)
                              · exact absurd hc18 (by omega)
                              · skip
                                refine r_ldc2 (v := lI 31) C kc_928 dX5_digest_153 ?_
                                refine r_lload_n C dX5_digest_156 hl 1 rfl ?_
                                refine r_lmul C dX5_digest_157 ?_
                                refine r_aload_n C dX5_digest_158 hl 0 rfl ?_
                                refine r_iload_n C dX5_digest_159 hl 2 rfl ?_
                                refine r_iload C dX5_digest_160 hl 3 rfl ?_
                                refine r_callR (rest := [.long (lI (31 * h5))]) (r := .int (iI ((m_now K2) (62 + 27 * e + k)))) C hl.1 (c_X5_edgeOf l g o ad (m_refused K2) (m_now K2) (m_kept K2) (m_states K2) (m_place K2) (m_startFact K2) (m_node K2) (m_fact K2) (m_ahead K2) (m_inside K2) (m_entries K2) (m_caller K2) (m_following K2) (m_firstCaller K2) (m_lastCaller K2) (m_callers K2) (m_known K2) (m_loose K2) (m_stack K2) (m_high K2) (m_pairs K2) (m_told K2) (m_text K2) (m_typed K2) (m_orders K2) (m_written K2) (m_look K2) e k (by assumption) (show 0 ≤ e ∧ e < 32 by omega) (show 0 ≤ k ∧ k < 3 by omega)) v_X5_118 rfl hW.1 0 rfl rfl rfl (by decide) (by decide) (Nat.le_of_ble_eq_true rfl) dX5_digest_162 rfl ?_
                                have hq19 := nEdge_q ((m_now K2)) e k (by assumption) (by omega) (by omega)
                                refine r_i2l C (by omega) dX5_digest_165 ?_
                                refine r_ladd C dX5_digest_166 ?_
                                refine r_lstore_n C [(1, .long (lI ((31 * h5) + ((m_now K2) (62 + 27 * e + k))))), (0, .ref (o)), (3, .int (iI (e))), (4, .int (iI (k)))] dX5_digest_167 hl (by decide) rfl (fun ls hl => ?_)
                                refine r_iinc (v := k + 1) C [(4, .int (iI (k + 1))), (1, .long (lI ((31 * h5) + ((m_now K2) (62 + 27 * e + k))))), (0, .ref (o)), (3, .int (iI (e)))] dX5_digest_168 hl 3 rfl (by decide) (by omega) rfl (fun ls hl => ?_)
                                refine r_goto C 147 dX5_digest_171 (by decide) ?_
                                exact ih147 (k + 1) _ (by omega) (by omega) (by rw [hq5, it_s]) _ _ ls hW (lv_sub hl [2, 1, 3, 0] rfl)
                          exact hloop147 3 0 h4 (by omega) (by omega) rfl _ _ ls hW (lv_sub hl [1, 2, 3, 0] rfl)
                    exact hloop134 (m_now K2 2).toNat 0 h3 (by omega) (by omega) rfl _ _ ls hW (lv_sub hl [1, 2, 0] rfl)
                  · exact absurd hc4 (by omega)
                | succ k63 ih63 =>
                  intro n h3 hkk3 hn hq3 H locs ls hW hl
                  refine r_iload_n C dX5_digest_63 hl 2 rfl ?_
                  refine r_aload_n C dX5_digest_64 hl 0 rfl ?_
                  refine r_get (v := .ref (ad 1)) C f_X5_13 hW.1 0 rfl rfl dX5_digest_65 ?_
                  refine r_iconst (z := 1) C dX5_digest_68 rfl ?_
                  refine r_iald (f := m_now K2) C hW.1 2 rfl (Nat.le_of_ble_eq_true rfl) (by omega) dX5_digest_69 ?_
                  have hr20 := hK2N.2.1
                  refine r_icmp_ge C 132 dX5_digest_70 (by decide) (by omega) (by omega) (fun hc21 => ?_) (fun hc21 => ?_)
                  · exact absurd hc21 (by omega)
                  · skip
                    refine r_ldc2 (v := lI 31) C kc_928 dX5_digest_73 ?_
                    refine r_lload_n C dX5_digest_76 hl 1 rfl ?_
                    refine r_lmul C dX5_digest_77 ?_
                    refine r_aload_n C dX5_digest_78 hl 0 rfl ?_
                    refine r_iload_n C dX5_digest_79 hl 2 rfl ?_
                    refine r_callR (rest := [.long (lI (31 * h3))]) (r := .int (iI ((m_now K2) (14 + 2 * n)))) C hl.1 (c_X5_procOf l g o ad (m_refused K2) (m_now K2) (m_kept K2) (m_states K2) (m_place K2) (m_startFact K2) (m_node K2) (m_fact K2) (m_ahead K2) (m_inside K2) (m_entries K2) (m_caller K2) (m_following K2) (m_firstCaller K2) (m_lastCaller K2) (m_callers K2) (m_known K2) (m_loose K2) (m_stack K2) (m_high K2) (m_pairs K2) (m_told K2) (m_text K2) (m_typed K2) (m_orders K2) (m_written K2) (m_look K2) n (by assumption) (show 0 ≤ n ∧ n < 24 by omega)) v_X5_104 rfl hW.1 0 rfl rfl rfl (by decide) (by decide) (Nat.le_of_ble_eq_true rfl) dX5_digest_80 rfl ?_
                    have hq22 := nProc_q ((m_now K2)) n (by assumption) (by omega)
                    refine r_i2l C (by omega) dX5_digest_83 ?_
                    refine r_ladd C dX5_digest_84 ?_
                    refine r_lstore_n C [(1, .long (lI ((31 * h3) + ((m_now K2) (14 + 2 * n))))), (0, .ref (o)), (3, .int (iI (n)))] dX5_digest_85 hl (by decide) rfl (fun ls hl => ?_)
                    refine r_ldc2 (v := lI 31) C kc_928 dX5_digest_86 ?_
                    refine r_lload_n C dX5_digest_89 hl 0 rfl ?_
                    refine r_lmul C dX5_digest_90 ?_
                    refine r_aload_n C dX5_digest_91 hl 1 rfl ?_
                    refine r_iload_n C dX5_digest_92 hl 2 rfl ?_
                    refine r_callR (rest := [.long (lI (31 * ((31 * h3) + ((m_now K2) (14 + 2 * n)))))]) (r := .int (iI ((m_now K2) (14 + 2 * n + 1)))) C hl.1 (c_X5_sortOf l g o ad (m_refused K2) (m_now K2) (m_kept K2) (m_states K2) (m_place K2) (m_startFact K2) (m_node K2) (m_fact K2) (m_ahead K2) (m_inside K2) (m_entries K2) (m_caller K2) (m_following K2) (m_firstCaller K2) (m_lastCaller K2) (m_callers K2) (m_known K2) (m_loose K2) (m_stack K2) (m_high K2) (m_pairs K2) (m_told K2) (m_text K2) (m_typed K2) (m_orders K2) (m_written K2) (m_look K2) n (by assumption) (show 0 ≤ n ∧ n < 24 by omega)) v_X5_108 rfl hW.1 0 rfl rfl rfl (by decide) (by decide) (Nat.le_of_ble_eq_true rfl) dX5_digest_93 rfl ?_
                    have hq23 := nSort_q ((m_now K2)) n (by assumption) (by omega)
                    refine r_i2l C (by omega) dX5_digest_96 ?_
                    refine r_ladd C dX5_digest_97 ?_
                    refine r_lstore_n C [(1, .long (lI ((31 * ((31 * h3) + ((m_now K2) (14 + 2 * n)))) + ((m_now K2) (14 + 2 * n + 1))))), (0, .ref (o)), (3, .int (iI (n)))] dX5_digest_98 hl (by decide) rfl (fun ls hl => ?_)
                    refine r_ldc2 (v := lI 31) C kc_928 dX5_digest_99 ?_
                    refine r_lload_n C dX5_digest_102 hl 0 rfl ?_
                    refine r_lmul C dX5_digest_103 ?_
                    refine r_aload_n C dX5_digest_104 hl 1 rfl ?_
                    refine r_iload_n C dX5_digest_105 hl 2 rfl ?_
                    refine r_callR (rest := [.long (lI (31 * ((31 * ((31 * h3) + ((m_now K2) (14 + 2 * n)))) + ((m_now K2) (14 + 2 * n + 1)))))]) (r := .int (iI (hHeld ((m_place K2)) n))) C hl.1 (c_X5_held l g o ad (m_refused K2) (m_now K2) (m_kept K2) (m_states K2) (m_place K2) (m_startFact K2) (m_node K2) (m_fact K2) (m_ahead K2) (m_inside K2) (m_entries K2) (m_caller K2) (m_following K2) (m_firstCaller K2) (m_lastCaller K2) (m_callers K2) (m_known K2) (m_loose K2) (m_stack K2) (m_high K2) (m_pairs K2) (m_told K2) (m_text K2) (m_typed K2) (m_orders K2) (m_written K2) (m_look K2) n (by assumption) (show 0 ≤ n ∧ n < 24 by omega)) v_X5_191 rfl hW.1 0 rfl rfl rfl (by decide) (by decide) (Nat.le_of_ble_eq_true rfl) dX5_digest_106 rfl ?_
                    have hh9 := hHeld_q (m_place K2) n
                    refine r_i2l C (by omega) dX5_digest_109 ?_
                    refine r_ladd C dX5_digest_110 ?_
                    refine r_lstore_n C [(1, .long (lI ((31 * ((31 * ((31 * h3) + ((m_now K2) (14 + 2 * n)))) + ((m_now K2) (14 + 2 * n + 1)))) + (hHeld ((m_place K2)) n)))), (0, .ref (o)), (3, .int (iI (n)))] dX5_digest_111 hl (by decide) rfl (fun ls hl => ?_)
                    refine r_ldc2 (v := lI 31) C kc_928 dX5_digest_112 ?_
                    refine r_lload_n C dX5_digest_115 hl 0 rfl ?_
                    refine r_lmul C dX5_digest_116 ?_
                    refine r_aload_n C dX5_digest_117 hl 1 rfl ?_
                    refine r_get (v := .ref (ad 13)) C f_X5_49 hW.1 0 rfl rfl dX5_digest_118 ?_
                    refine r_iload_n C dX5_digest_121 hl 2 rfl ?_
                    refine r_iald (f := m_loose K2) C hW.1 14 rfl (Nat.le_of_ble_eq_true rfl) (by omega) dX5_digest_122 ?_
                    have hr24 := hK2o_loose n (by omega) (by omega)
                    refine r_i2l C (by omega) dX5_digest_123 ?_
                    refine r_ladd C dX5_digest_124 ?_
                    refine r_lstore_n C [(1, .long (lI ((31 * ((31 * ((31 * ((31 * h3) + ((m_now K2) (14 + 2 * n)))) + ((m_now K2) (14 + 2 * n + 1)))) + (hHeld ((m_place K2)) n))) + (m_loose K2 n)))), (0, .ref (o)), (3, .int (iI (n)))] dX5_digest_125 hl (by decide) rfl (fun ls hl => ?_)
                    refine r_iinc (v := n + 1) C [(3, .int (iI (n + 1))), (1, .long (lI ((31 * ((31 * ((31 * ((31 * h3) + ((m_now K2) (14 + 2 * n)))) + ((m_now K2) (14 + 2 * n + 1)))) + (hHeld ((m_place K2)) n))) + (m_loose K2 n)))), (0, .ref (o))] dX5_digest_126 hl 2 rfl (by decide) (by omega) rfl (fun ls hl => ?_)
                    refine r_goto C 63 dX5_digest_129 (by decide) ?_
                    exact ih63 (n + 1) _ (by omega) (by omega) (by rw [hq3, it_s]; rfl) _ _ ls hW (lv_sub hl [2, 1, 0] rfl)
              exact hloop63 (m_now K2 1).toNat 0 h2 (by omega) (by omega) rfl _ _ ls hW (lv_sub hl [1, 2, 0] rfl)
            · exact absurd hc2 (by omega)
          | succ k32 ih32 =>
            intro w h2 X hkk2 hw2 hXo hXn hXK hX9 hq2 H locs ls hW hl
            obtain ⟨hXo_refused, hXo_states, hXo_place, hXo_startFact, hXo_node, hXo_fact, hXo_ahead, hXo_inside, hXo_entries, hXo_caller, hXo_following, hXo_firstCaller, hXo_lastCaller, hXo_callers, hXo_known, hXo_loose, hXo_stack, hXo_high, hXo_pairs, hXo_told, hXo_text, hXo_typed, hXo_orders, hXo_written, hXo_look⟩ := id hXo
            have hXN : nOk (m_now X) := by rw [hXn]; exact hN
            have hXW : nWf (m_now X) := by rw [hXn]; exact hWf
            refine r_iload_n C dX5_digest_32 hl 2 rfl ?_
            refine r_bipush (z := 6) C dX5_digest_33 rfl ?_
            refine r_icmp_ge C 57 dX5_digest_35 (by decide) (by omega) (by omega) (fun hc25 => ?_) (fun hc25 => ?_)
            · exact absurd hc25 (by omega)
            · skip
              refine r_ldc2 (v := lI 31) C kc_928 dX5_digest_38 ?_
              refine r_lload_n C dX5_digest_41 hl 1 rfl ?_
              refine r_lmul C dX5_digest_42 ?_
              refine r_aload_n C dX5_digest_43 hl 0 rfl ?_
              refine r_iload_n C dX5_digest_44 hl 2 rfl ?_
              refine r_callW (rest := [.long (lI (31 * h2))]) (r := some (.int (iI (mCountOf K w)))) (wr := []) (ws2 := mF g o ad (m_refused K) (m_now K) (m_kept K) (m_states K) (m_place K) (m_startFact K) (m_node K) (m_fact K) (m_ahead K) (m_inside K) (m_entries K) (m_caller K) (m_following K) (m_firstCaller K) (m_lastCaller K) (m_callers K) (m_known K) (m_loose K) (m_stack K) (m_high K) (m_pairs K) (m_told K) (m_text K) (m_typed K) (m_orders K) (m_written K) (m_look K)) (st1 := [.int (iI (mCountOf K w)), .long (lI (31 * h2))]) C hl.1 hW hA (c_X5_countOf l g o ad X w K (by assumption) (by assumption) (by assumption) (show 0 ≤ w ∧ w ≤ 5 by omega) hXK) v_X5_194 rfl [0, 1, 2, 3, 4, 5, 6, 7, 8, 9, 10, 11, 12, 13, 14, 15, 16, 17, 18] [] [0, 1, 2, 3, 4, 5, 6, 7, 8, 9, 10, 11, 12, 13, 14, 15, 16, 17, 18] rfl rfl (by decide) (by decide) rfl rfl 0 rfl rfl rfl (by decide) (by decide) (Nat.le_of_ble_eq_true rfl) dX5_digest_45 rfl rfl (fun H locs hW => ?_)
              have hc9 := mCountOf_q (w := w) hKo hKN (by omega)
              refine r_i2l C (by omega) dX5_digest_48 ?_
              refine r_ladd C dX5_digest_49 ?_
              refine r_lstore_n C [(1, .long (lI ((31 * h2) + (mCountOf K w)))), (0, .ref (o)), (3, .int (iI (w)))] dX5_digest_50 hl (by decide) rfl (fun ls hl => ?_)
              refine r_iinc (v := w + 1) C [(3, .int (iI (w + 1))), (1, .long (lI ((31 * h2) + (mCountOf K w)))), (0, .ref (o))] dX5_digest_51 hl 2 rfl (by decide) (by omega) rfl (fun ls hl => ?_)
              refine r_goto C 32 dX5_digest_54 (by decide) ?_
              exact ih32 (w + 1) _ K (by omega) (by omega) hKo hKn (by rw [← hK, mKn_K]) (Or.inr ⟨by omega, rfl⟩) (by rw [hq2, it_s]) _ _ ls hW (lv_sub hl [2, 1, 0] rfl)
        exact hloop32 6 0 h M (by omega) (by omega) hM rfl hK (Or.inl rfl) rfl _ _ ls hW (lv_sub hl [1, 2, 0] rfl)
      · exact absurd hc1 (by omega)
    | succ k6 ih6 =>
      intro w h hkk hw hq1 H locs ls hW hl
      refine r_iload_n C dX5_digest_6 hl 2 rfl ?_
      refine r_iconst (z := 5) C dX5_digest_7 rfl ?_
      refine r_icmp_ge C 30 dX5_digest_8 (by decide) (by omega) (by omega) (fun hc26 => ?_) (fun hc26 => ?_)
      · exact absurd hc26 (by omega)
      · skip
        refine r_ldc2 (v := lI 31) C kc_928 dX5_digest_11 ?_
        refine r_lload_n C dX5_digest_14 hl 1 rfl ?_
        refine r_lmul C dX5_digest_15 ?_
        refine r_aload_n C dX5_digest_16 hl 0 rfl ?_
        refine r_iload_n C dX5_digest_17 hl 2 rfl ?_
        refine r_callR (rest := [.long (lI (31 * h))]) (r := .int (iI (mTold M w))) C hl.1 (c_X5_toldOf l g o ad (m_refused M) (m_now M) (m_kept M) (m_states M) (m_place M) (m_startFact M) (m_node M) (m_fact M) (m_ahead M) (m_inside M) (m_entries M) (m_caller M) (m_following M) (m_firstCaller M) (m_lastCaller M) (m_callers M) (m_known M) (m_loose M) (m_stack M) (m_high M) (m_pairs M) (m_told M) (m_text M) (m_typed M) (m_orders M) (m_written M) (m_look M) w (by assumption) (show 0 ≤ w ∧ w ≤ 4 by omega)) v_X5_249 rfl hW.1 0 rfl rfl rfl (by decide) (by decide) (Nat.le_of_ble_eq_true rfl) dX5_digest_18 rfl ?_
        have hq27 := mTold_q M w (by assumption) (by omega)
        have ht9 := mTold_q M w hM (by omega)
        refine r_i2l C (by omega) dX5_digest_21 ?_
        refine r_ladd C dX5_digest_22 ?_
        refine r_lstore_n C [(1, .long (lI ((31 * h) + (mTold M w)))), (0, .ref (o)), (3, .int (iI (w)))] dX5_digest_23 hl (by decide) rfl (fun ls hl => ?_)
        refine r_iinc (v := w + 1) C [(3, .int (iI (w + 1))), (1, .long (lI ((31 * h) + (mTold M w)))), (0, .ref (o))] dX5_digest_24 hl 2 rfl (by decide) (by omega) rfl (fun ls hl => ?_)
        refine r_goto C 6 dX5_digest_27 (by decide) ?_
        exact ih6 (w + 1) _ (by omega) (by omega) (by rw [hq1, it_s]) _ _ ls hW (lv_sub hl [2, 1, 0] rfl)
  exact hloop6 5 0 1807 (by omega) (by omega) rfl _ _ ls hW (lv_sub hl [2, 1, 0] rfl)

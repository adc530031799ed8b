set_option maxHeartbeats 4000000 in
set_option maxRecDepth 100000 in
theorem c_X4_isFact (l : Launch) (g : GG) (f : Int) (hf : rg f) : MR l g yX4_isFact cX4_isFact 1 (some .boolean) 0 0 [.int (iI (f))] ([]) (.int (iI (bI (0 ≤ f ∧ f < 8)))) := by
  refine MR_start (by decide) (Nat.le_of_ble_eq_true rfl) ?_
  intro zp ze zs zm zb zt zc C hrt hlk hH ls hl
  have hl : lv_has ls 1 [(0, .int (iI (f)))] := hl
  refine r_iload_n C dX4_isFact_0 hl 0 rfl ?_
  refine r_if_lt C 14 dX4_isFact_1 (by decide) (by omega) (fun hc1 => ?_) (fun hc1 => ?_)
  · skip
    refine r_iconst (z := 0) C dX4_isFact_14 rfl ?_
    exact MR_zret (d := 0 ≤ f ∧ f < 8) C hrt hlk dX4_isFact_15 (bI_f (by first | assumption | omega)).symm rfl
  · skip
    refine r_iload_n C dX4_isFact_4 hl 0 rfl ?_
    refine r_bipush (z := 8) C dX4_isFact_5 rfl ?_
    refine r_icmp_ge C 14 dX4_isFact_7 (by decide) (by omega) (by omega) (fun hc2 => ?_) (fun hc2 => ?_)
    · skip
      refine r_iconst (z := 0) C dX4_isFact_14 rfl ?_
      exact MR_zret (d := 0 ≤ f ∧ f < 8) C hrt hlk dX4_isFact_15 (bI_f (by first | assumption | omega)).symm rfl
    · skip
      refine r_iconst (z := 1) C dX4_isFact_10 rfl ?_
      refine r_goto C 15 dX4_isFact_11 (by decide) ?_
      exact MR_zret (d := 0 ≤ f ∧ f < 8) C hrt hlk dX4_isFact_15 (bI_t (by first | assumption | omega)).symm rfl
set_option maxHeartbeats 4000000 in
set_option maxRecDepth 100000 in
theorem c_X4_isFacts (l : Launch) (g : GG) (v : Int) (hv : rg v) : MR l g yX4_isFacts cX4_isFacts 1 (some .boolean) 0 0 [.int (iI (v))] ([]) (.int (iI (bI (0 ≤ v ∧ v ≤ 255)))) := by
  refine MR_start (by decide) (Nat.le_of_ble_eq_true rfl) ?_
  intro zp ze zs zm zb zt zc C hrt hlk hH ls hl
  have hl : lv_has ls 1 [(0, .int (iI (v)))] := hl
  refine r_iload_n C dX4_isFacts_0 hl 0 rfl ?_
  refine r_if_lt C 15 dX4_isFacts_1 (by decide) (by omega) (fun hc1 => ?_) (fun hc1 => ?_)
  · skip
    refine r_iconst (z := 0) C dX4_isFacts_15 rfl ?_
    exact MR_zret (d := 0 ≤ v ∧ v ≤ 255) C hrt hlk dX4_isFacts_16 (bI_f (by first | assumption | omega)).symm rfl
  · skip
    refine r_iload_n C dX4_isFacts_4 hl 0 rfl ?_
    refine r_sipush (z := 255) C dX4_isFacts_5 rfl ?_
    refine r_icmp_gt C 15 dX4_isFacts_8 (by decide) (by omega) (by omega) (fun hc2 => ?_) (fun hc2 => ?_)
    · skip
      refine r_iconst (z := 0) C dX4_isFacts_15 rfl ?_
      exact MR_zret (d := 0 ≤ v ∧ v ≤ 255) C hrt hlk dX4_isFacts_16 (bI_f (by first | assumption | omega)).symm rfl
    · skip
      refine r_iconst (z := 1) C dX4_isFacts_11 rfl ?_
      refine r_goto C 16 dX4_isFacts_12 (by decide) ?_
      exact MR_zret (d := 0 ≤ v ∧ v ≤ 255) C hrt hlk dX4_isFacts_16 (bI_t (by first | assumption | omega)).symm rfl
set_option maxHeartbeats 4000000 in
set_option maxRecDepth 100000 in
theorem c_X4_has (l : Launch) (g : GG) (x f : Int) (hx : 0 ≤ x ∧ x < 2147483648) (hf : 0 ≤ f ∧ f < 31) : MR l g yX4_has cX4_has 2 (some .boolean) 0 0 [.int (iI (x)), .int (iI (f))] ([]) (.int (iI (bI (tb x f = true)))) := by
  refine MR_start (by decide) (Nat.le_of_ble_eq_true rfl) ?_
  intro zp ze zs zm zb zt zc C hrt hlk hH ls hl
  have hl : lv_has ls 2 [(0, .int (iI (x))), (1, .int (iI (f)))] := hl
  have hq := tb_bit (a := x) (k := f) (by omega) (by omega)
  refine r_iload_n C dX4_has_0 hl 0 rfl ?_
  refine r_iload_n C dX4_has_1 hl 1 rfl ?_
  refine r_ishr C (by omega) (by omega) (by omega) (by omega) dX4_has_2 ?_
  have hb1 : 0 ≤ x / p2 f := Int.ediv_nonneg (by omega) (Int.le_of_lt (p2_0 _))
  refine r_iconst (z := 1) C dX4_has_3 rfl ?_
  refine r_iand C (by omega) (by omega) dX4_has_4 ?_
  have hb2 := bA_0 (x / p2 f) 1
  have hb4 := Nat.and_le_right (n := (x / p2 f).toNat) (m := (1 : Int).toNat); have hb3 : bA (x / p2 f) 1 ≤ 1 := by unfold bA; omega
  refine r_if_eq C 12 dX4_has_5 (by decide) (by omega) (fun hc5 => ?_) (fun hc5 => ?_)
  · skip
    refine r_iconst (z := 0) C dX4_has_12 rfl ?_
    exact MR_zret (d := tb x f = true) C hrt hlk dX4_has_13 (bI_f (by intro h; rw [if_pos h] at hq; omega)).symm rfl
  · skip
    refine r_iconst (z := 1) C dX4_has_8 rfl ?_
    refine r_goto C 13 dX4_has_9 (by decide) ?_
    exact MR_zret (d := tb x f = true) C hrt hlk dX4_has_13 (bI_t (Decidable.byContradiction (fun h => by rw [if_neg h] at hq; omega))).symm rfl
set_option maxHeartbeats 4000000 in
set_option maxRecDepth 100000 in
theorem c_X4_cell (l : Launch) (g : GG) (n a : Int) : MR l g yX4_cell cX4_cell 2 (some .int) 0 0 [.int (iI (n)), .int (iI (a))] ([]) (.int (iI (n * 8 + a))) := by
  refine MR_start (by decide) (Nat.le_of_ble_eq_true rfl) ?_
  intro zp ze zs zm zb zt zc C hrt hlk hH ls hl
  have hl : lv_has ls 2 [(0, .int (iI (n))), (1, .int (iI (a)))] := hl
  refine r_iload_n C dX4_cell_0 hl 0 rfl ?_
  refine r_bipush (z := 8) C dX4_cell_1 rfl ?_
  refine r_imul C dX4_cell_3 ?_
  refine r_iload_n C dX4_cell_4 hl 1 rfl ?_
  refine r_iadd C dX4_cell_5 ?_
  exact MR_iret C hrt hlk dX4_cell_6 (iv rfl)
set_option maxHeartbeats 4000000 in
set_option maxRecDepth 100000 in
theorem c_X0_isProc (l : Launch) (g : GG) (o : Nat) (ad : Nat → Nat) (P : Pg) (n : Int) (hP : pOk P) (hn : rg n) : MR l g yX0_isProc cX0_isProc 2 (some .boolean) 0 0 [.ref (o), .int (iI (n))] (pW g o ad P) (.int (iI (bI (0 ≤ n ∧ n < p_procs P)))) := by
  refine MR_start (by decide) (Nat.le_of_ble_eq_true rfl) ?_
  intro zp ze zs zm zb zt zc C hrt hlk hH ls hl
  have hl : lv_has ls 2 [(0, .ref (o)), (1, .int (iI (n)))] := hl
  obtain ⟨hP_procs, hP_nodes, hP_edges, hP_start, hP_entryOf, hP_exitOf, hP_procOf, hP_kindOf, hP_from, hP_to, hP_callee⟩ := id hP
  refine r_iload_n C dX0_isProc_0 hl 1 rfl ?_
  refine r_if_lt C 16 dX0_isProc_1 (by decide) (by omega) (fun hc1 => ?_) (fun hc1 => ?_)
  · skip
    refine r_iconst (z := 0) C dX0_isProc_16 rfl ?_
    exact MR_zret (d := 0 ≤ n ∧ n < p_procs P) C hrt hlk dX0_isProc_17 (bI_f (by first | assumption | omega)).symm rfl
  · skip
    refine r_iload_n C dX0_isProc_4 hl 1 rfl ?_
    refine r_aload_n C dX0_isProc_5 hl 0 rfl ?_
    refine r_get (v := .int (iI (p_procs P))) C f_X0_9 hH 0 rfl rfl dX0_isProc_6 ?_
    refine r_icmp_ge C 16 dX0_isProc_9 (by decide) (by omega) (by omega) (fun hc2 => ?_) (fun hc2 => ?_)
    · skip
      refine r_iconst (z := 0) C dX0_isProc_16 rfl ?_
      exact MR_zret (d := 0 ≤ n ∧ n < p_procs P) C hrt hlk dX0_isProc_17 (bI_f (by first | assumption | omega)).symm rfl
    · skip
      refine r_iconst (z := 1) C dX0_isProc_12 rfl ?_
      refine r_goto C 17 dX0_isProc_13 (by decide) ?_
      exact MR_zret (d := 0 ≤ n ∧ n < p_procs P) C hrt hlk dX0_isProc_17 (bI_t (by first | assumption | omega)).symm rfl
set_option maxHeartbeats 4000000 in
set_option maxRecDepth 100000 in
theorem c_X0_isNode (l : Launch) (g : GG) (o : Nat) (ad : Nat → Nat) (P : Pg) (n : Int) (hP : pOk P) (hn : rg n) : MR l g yX0_isNode cX0_isNode 2 (some .boolean) 0 0 [.ref (o), .int (iI (n))] (pW g o ad P) (.int (iI (bI (0 ≤ n ∧ n < p_nodes P)))) := by
  refine MR_start (by decide) (Nat.le_of_ble_eq_true rfl) ?_
  intro zp ze zs zm zb zt zc C hrt hlk hH ls hl
  have hl : lv_has ls 2 [(0, .ref (o)), (1, .int (iI (n)))] := hl
  obtain ⟨hP_procs, hP_nodes, hP_edges, hP_start, hP_entryOf, hP_exitOf, hP_procOf, hP_kindOf, hP_from, hP_to, hP_callee⟩ := id hP
  refine r_iload_n C dX0_isNode_0 hl 1 rfl ?_
  refine r_if_lt C 16 dX0_isNode_1 (by decide) (by omega) (fun hc1 => ?_) (fun hc1 => ?_)
  · skip
    refine r_iconst (z := 0) C dX0_isNode_16 rfl ?_
    exact MR_zret (d := 0 ≤ n ∧ n < p_nodes P) C hrt hlk dX0_isNode_17 (bI_f (by first | assumption | omega)).symm rfl
  · skip
    refine r_iload_n C dX0_isNode_4 hl 1 rfl ?_
    refine r_aload_n C dX0_isNode_5 hl 0 rfl ?_
    refine r_get (v := .int (iI (p_nodes P))) C f_X0_15 hH 0 rfl rfl dX0_isNode_6 ?_
    refine r_icmp_ge C 16 dX0_isNode_9 (by decide) (by omega) (by omega) (fun hc2 => ?_) (fun hc2 => ?_)
    · skip
      refine r_iconst (z := 0) C dX0_isNode_16 rfl ?_
      exact MR_zret (d := 0 ≤ n ∧ n < p_nodes P) C hrt hlk dX0_isNode_17 (bI_f (by first | assumption | omega)).symm rfl
    · skip
      refine r_iconst (z := 1) C dX0_isNode_12 rfl ?_
      refine r_goto C 17 dX0_isNode_13 (by decide) ?_
      exact MR_zret (d := 0 ≤ n ∧ n < p_nodes P) C hrt hlk dX0_isNode_17 (bI_t (by first | assumption | omega)).symm rfl
set_option maxHeartbeats 4000000 in
set_option maxRecDepth 100000 in
theorem c_X0_isEdge (l : Launch) (g : GG) (o : Nat) (ad : Nat → Nat) (P : Pg) (n : Int) (hP : pOk P) (hn : rg n) : MR l g yX0_isEdge cX0_isEdge 2 (some .boolean) 0 0 [.ref (o), .int (iI (n))] (pW g o ad P) (.int (iI (bI (0 ≤ n ∧ n < p_edges P)))) := by
  refine MR_start (by decide) (Nat.le_of_ble_eq_true rfl) ?_
  intro zp ze zs zm zb zt zc C hrt hlk hH ls hl
  have hl : lv_has ls 2 [(0, .ref (o)), (1, .int (iI (n)))] := hl
  obtain ⟨hP_procs, hP_nodes, hP_edges, hP_start, hP_entryOf, hP_exitOf, hP_procOf, hP_kindOf, hP_from, hP_to, hP_callee⟩ := id hP
  refine r_iload_n C dX0_isEdge_0 hl 1 rfl ?_
  refine r_if_lt C 16 dX0_isEdge_1 (by decide) (by omega) (fun hc1 => ?_) (fun hc1 => ?_)
  · skip
    refine r_iconst (z := 0) C dX0_isEdge_16 rfl ?_
    exact MR_zret (d := 0 ≤ n ∧ n < p_edges P) C hrt hlk dX0_isEdge_17 (bI_f (by first | assumption | omega)).symm rfl
  · skip
    refine r_iload_n C dX0_isEdge_4 hl 1 rfl ?_
    refine r_aload_n C dX0_isEdge_5 hl 0 rfl ?_
    refine r_get (v := .int (iI (p_edges P))) C f_X0_18 hH 0 rfl rfl dX0_isEdge_6 ?_
    refine r_icmp_ge C 16 dX0_isEdge_9 (by decide) (by omega) (by omega) (fun hc2 => ?_) (fun hc2 => ?_)
    · skip
      refine r_iconst (z := 0) C dX0_isEdge_16 rfl ?_
      exact MR_zret (d := 0 ≤ n ∧ n < p_edges P) C hrt hlk dX0_isEdge_17 (bI_f (by first | assumption | omega)).symm rfl
    · skip
      refine r_iconst (z := 1) C dX0_isEdge_12 rfl ?_
      refine r_goto C 17 dX0_isEdge_13 (by decide) ?_
      exact MR_zret (d := 0 ≤ n ∧ n < p_edges P) C hrt hlk dX0_isEdge_17 (bI_t (by first | assumption | omega)).symm rfl
set_option maxHeartbeats 4000000 in
set_option maxRecDepth 100000 in
theorem c_X0_joins (l : Launch) (g : GG) (o : Nat) (ad : Nat → Nat) (P : Pg) (n k : Int) (hP : pOk P) (hn : rg n) (hm : rg k) : MR l g yX0_joins cX0_joins 3 (some .boolean) 1 21 [.ref (o), .int (iI (n)), .int (iI (k))] (pW g o ad P) (.int (iI (bI ((0 ≤ n ∧ n < p_nodes P) ∧ (0 ≤ k ∧ k < p_nodes P) ∧ p_procOf P n = p_procOf P k ∧ p_kindOf P n ≠ 1 ∧ p_kindOf P k ≠ 0)))) := by
  refine MR_start (by decide) (Nat.le_of_ble_eq_true rfl) ?_
  intro zp ze zs zm zb zt zc C hrt hlk hH ls hl
  have hl : lv_has ls 3 [(0, .ref (o)), (1, .int (iI (n))), (2, .int (iI (k)))] := hl
  obtain ⟨hP_procs, hP_nodes, hP_edges, hP_start, hP_entryOf, hP_exitOf, hP_procOf, hP_kindOf, hP_from, hP_to, hP_callee⟩ := id hP
  refine r_aload_n C dX0_joins_0 hl 0 rfl ?_
  refine r_iload_n C dX0_joins_1 hl 1 rfl ?_
  refine r_callR (rest := []) (r := .int (iI (bI (0 ≤ n ∧ n < (p_nodes P))))) C hl.1 (c_X0_isNode l g o ad P n (by assumption) (show rg n by omega)) v_X0_56 rfl hH 0 rfl rfl rfl (by decide) (by decide) (Nat.le_of_ble_eq_true rfl) dX0_joins_2 rfl ?_
  refine r_ifb_eq C 54 dX0_joins_5 (by decide) (fun hc1 => ?_) (fun hc1 => ?_)
  · skip
    refine r_iconst (z := 0) C dX0_joins_54 rfl ?_
    exact MR_zret (d := (0 ≤ n ∧ n < p_nodes P) ∧ (0 ≤ k ∧ k < p_nodes P) ∧ p_procOf P n = p_procOf P k ∧ p_kindOf P n ≠ 1 ∧ p_kindOf P k ≠ 0) C hrt hlk dX0_joins_55 (bI_f (by first | assumption | omega)).symm rfl
  · skip
    refine r_aload_n C dX0_joins_8 hl 0 rfl ?_
    refine r_iload_n C dX0_joins_9 hl 2 rfl ?_
    refine r_callR (rest := []) (r := .int (iI (bI (0 ≤ k ∧ k < (p_nodes P))))) C hl.1 (c_X0_isNode l g o ad P k (by assumption) (show rg k by omega)) v_X0_56 rfl hH 0 rfl rfl rfl (by decide) (by decide) (Nat.le_of_ble_eq_true rfl) dX0_joins_10 rfl ?_
    refine r_ifb_eq C 54 dX0_joins_13 (by decide) (fun hc2 => ?_) (fun hc2 => ?_)
    · skip
      refine r_iconst (z := 0) C dX0_joins_54 rfl ?_
      exact MR_zret (d := (0 ≤ n ∧ n < p_nodes P) ∧ (0 ≤ k ∧ k < p_nodes P) ∧ p_procOf P n = p_procOf P k ∧ p_kindOf P n ≠ 1 ∧ p_kindOf P k ≠ 0) C hrt hlk dX0_joins_55 (bI_f (by first | assumption | omega)).symm rfl
    · skip
      refine r_aload_n C dX0_joins_16 hl 0 rfl ?_
      refine r_get (v := .ref (ad 2)) C f_X0_31 hH 0 rfl rfl dX0_joins_17 ?_
      refine r_iload_n C dX0_joins_20 hl 1 rfl ?_
      refine r_iald (f := p_procOf P) C hH 3 rfl (Nat.le_of_ble_eq_true rfl) (by omega) dX0_joins_21 ?_
      have hr3 := hP_procOf n (by omega) (by omega)
      refine r_aload_n C dX0_joins_22 hl 0 rfl ?_
      refine r_get (v := .ref (ad 2)) C f_X0_31 hH 0 rfl rfl dX0_joins_23 ?_
      refine r_iload_n C dX0_joins_26 hl 2 rfl ?_
      refine r_iald (f := p_procOf P) C hH 3 rfl (Nat.le_of_ble_eq_true rfl) (by omega) dX0_joins_27 ?_
      have hr4 := hP_procOf k (by omega) (by omega)
      refine r_icmp_ne C 54 dX0_joins_28 (by decide) (by omega) (by omega) (fun hc5 => ?_) (fun hc5 => ?_)
      · skip
        refine r_iconst (z := 0) C dX0_joins_54 rfl ?_
        exact MR_zret (d := (0 ≤ n ∧ n < p_nodes P) ∧ (0 ≤ k ∧ k < p_nodes P) ∧ p_procOf P n = p_procOf P k ∧ p_kindOf P n ≠ 1 ∧ p_kindOf P k ≠ 0) C hrt hlk dX0_joins_55 (bI_f (by first | assumption | omega)).symm rfl
      · skip
        refine r_aload_n C dX0_joins_31 hl 0 rfl ?_
        refine r_get (v := .ref (ad 3)) C f_X0_34 hH 0 rfl rfl dX0_joins_32 ?_
        refine r_iload_n C dX0_joins_35 hl 1 rfl ?_
        refine r_iald (f := p_kindOf P) C hH 4 rfl (Nat.le_of_ble_eq_true rfl) (by omega) dX0_joins_36 ?_
        have hr6 := hP_kindOf n (by omega) (by omega)
        refine r_iconst (z := 1) C dX0_joins_37 rfl ?_
        refine r_icmp_eq C 54 dX0_joins_38 (by decide) (by omega) (by omega) (fun hc7 => ?_) (fun hc7 => ?_)
        · skip
          refine r_iconst (z := 0) C dX0_joins_54 rfl ?_
          exact MR_zret (d := (0 ≤ n ∧ n < p_nodes P) ∧ (0 ≤ k ∧ k < p_nodes P) ∧ p_procOf P n = p_procOf P k ∧ p_kindOf P n ≠ 1 ∧ p_kindOf P k ≠ 0) C hrt hlk dX0_joins_55 (bI_f (by first | assumption | omega)).symm rfl
        · skip
          refine r_aload_n C dX0_joins_41 hl 0 rfl ?_
          refine r_get (v := .ref (ad 3)) C f_X0_34 hH 0 rfl rfl dX0_joins_42 ?_
          refine r_iload_n C dX0_joins_45 hl 2 rfl ?_
          refine r_iald (f := p_kindOf P) C hH 4 rfl (Nat.le_of_ble_eq_true rfl) (by omega) dX0_joins_46 ?_
          have hr8 := hP_kindOf k (by omega) (by omega)
          refine r_if_eq C 54 dX0_joins_47 (by decide) (by omega) (fun hc9 => ?_) (fun hc9 => ?_)
          · skip
            refine r_iconst (z := 0) C dX0_joins_54 rfl ?_
            exact MR_zret (d := (0 ≤ n ∧ n < p_nodes P) ∧ (0 ≤ k ∧ k < p_nodes P) ∧ p_procOf P n = p_procOf P k ∧ p_kindOf P n ≠ 1 ∧ p_kindOf P k ≠ 0) C hrt hlk dX0_joins_55 (bI_f (by first | assumption | omega)).symm rfl
          · skip
            refine r_iconst (z := 1) C dX0_joins_50 rfl ?_
            refine r_goto C 55 dX0_joins_51 (by decide) ?_
            exact MR_zret (d := (0 ≤ n ∧ n < p_nodes P) ∧ (0 ≤ k ∧ k < p_nodes P) ∧ p_procOf P n = p_procOf P k ∧ p_kindOf P n ≠ 1 ∧ p_kindOf P k ≠ 0) C hrt hlk dX0_joins_55 (bI_t (by first | assumption | omega)).symm rfl
set_option maxHeartbeats 4000000 in
set_option maxRecDepth 100000 in
theorem c_X0_flowsOf (l : Launch) (g : GG) (o : Nat) (ad : Nat → Nat) (P : Pg) (e : Int) (hP : pOk P) (he : 0 ≤ e ∧ e < 32) : MR l g yX0_flowsOf cX0_flowsOf 2 (some .int) 0 0 [.ref (o), .int (iI (e))] (pW g o ad P) (.int (iI (if p_callee P e = -1 then 1 else 3))) := by
  refine MR_start (by decide) (Nat.le_of_ble_eq_true rfl) ?_
  intro zp ze zs zm zb zt zc C hrt hlk hH ls hl
  have hl : lv_has ls 2 [(0, .ref (o)), (1, .int (iI (e)))] := hl
  obtain ⟨hP_procs, hP_nodes, hP_edges, hP_start, hP_entryOf, hP_exitOf, hP_procOf, hP_kindOf, hP_from, hP_to, hP_callee⟩ := id hP
  refine r_aload_n C dX0_flowsOf_0 hl 0 rfl ?_
  refine r_get (v := .ref (ad 6)) C f_X0_43 hH 0 rfl rfl dX0_flowsOf_1 ?_
  refine r_iload_n C dX0_flowsOf_4 hl 1 rfl ?_
  refine r_iald (f := p_callee P) C hH 7 rfl (Nat.le_of_ble_eq_true rfl) (by omega) dX0_flowsOf_5 ?_
  have hr1 := hP_callee e (by omega) (by omega)
  refine r_iconst (z := -1) C dX0_flowsOf_6 rfl ?_
  refine r_icmp_ne C 14 dX0_flowsOf_7 (by decide) (by omega) (by omega) (fun hc2 => ?_) (fun hc2 => ?_)
  · skip
    refine r_iconst (z := 3) C dX0_flowsOf_14 rfl ?_
    exact MR_iret C hrt hlk dX0_flowsOf_15 (iv (by split <;> omega))
  · skip
    refine r_iconst (z := 1) C dX0_flowsOf_10 rfl ?_
    refine r_goto C 15 dX0_flowsOf_11 (by decide) ?_
    exact MR_iret C hrt hlk dX0_flowsOf_15 (iv (by split <;> omega))
set_option maxHeartbeats 4000000 in
set_option maxRecDepth 100000 in
theorem c_X0_hasFlow (l : Launch) (g : GG) (o : Nat) (ad : Nat → Nat) (P : Pg) (e w : Int) (hP : pOk P) (he : rg e) (hw : rg w) : MR l g yX0_hasFlow cX0_hasFlow 3 (some .boolean) 1 21 [.ref (o), .int (iI (e)), .int (iI (w))] (pW g o ad P) (.int (iI (bI ((0 ≤ e ∧ e < p_edges P) ∧ 0 ≤ w ∧ w < (if p_callee P e = -1 then 1 else 3))))) := by
  refine MR_start (by decide) (Nat.le_of_ble_eq_true rfl) ?_
  intro zp ze zs zm zb zt zc C hrt hlk hH ls hl
  have hl : lv_has ls 3 [(0, .ref (o)), (1, .int (iI (e))), (2, .int (iI (w)))] := hl
  obtain ⟨hP_procs, hP_nodes, hP_edges, hP_start, hP_entryOf, hP_exitOf, hP_procOf, hP_kindOf, hP_from, hP_to, hP_callee⟩ := id hP
  refine r_aload_n C dX0_hasFlow_0 hl 0 rfl ?_
  refine r_iload_n C dX0_hasFlow_1 hl 1 rfl ?_
  refine r_callR (rest := []) (r := .int (iI (bI (0 ≤ e ∧ e < (p_edges P))))) C hl.1 (c_X0_isEdge l g o ad P e (by assumption) (show rg e by omega)) v_X0_60 rfl hH 0 rfl rfl rfl (by decide) (by decide) (Nat.le_of_ble_eq_true rfl) dX0_hasFlow_2 rfl ?_
  refine r_ifb_eq C 25 dX0_hasFlow_5 (by decide) (fun hc1 => ?_) (fun hc1 => ?_)
  · skip
    refine r_iconst (z := 0) C dX0_hasFlow_25 rfl ?_
    exact MR_zret (d := (0 ≤ e ∧ e < p_edges P) ∧ 0 ≤ w ∧ w < (if p_callee P e = -1 then 1 else 3)) C hrt hlk dX0_hasFlow_26 (bI_f (by first | assumption | omega)).symm rfl
  · skip
    refine r_iload_n C dX0_hasFlow_8 hl 2 rfl ?_
    refine r_if_lt C 25 dX0_hasFlow_9 (by decide) (by omega) (fun hc2 => ?_) (fun hc2 => ?_)
    · skip
      refine r_iconst (z := 0) C dX0_hasFlow_25 rfl ?_
      exact MR_zret (d := (0 ≤ e ∧ e < p_edges P) ∧ 0 ≤ w ∧ w < (if p_callee P e = -1 then 1 else 3)) C hrt hlk dX0_hasFlow_26 (bI_f (by first | assumption | omega)).symm rfl
    · skip
      refine r_iload_n C dX0_hasFlow_12 hl 2 rfl ?_
      refine r_aload_n C dX0_hasFlow_13 hl 0 rfl ?_
      refine r_iload_n C dX0_hasFlow_14 hl 1 rfl ?_
      refine r_callR (rest := [.int (iI (w))]) (r := .int (iI (if (p_callee P) e = -1 then 1 else 3))) C hl.1 (c_X0_flowsOf l g o ad P e (by assumption) (show 0 ≤ e ∧ e < 32 by omega)) v_X0_63 rfl hH 0 rfl rfl rfl (by decide) (by decide) (Nat.le_of_ble_eq_true rfl) dX0_hasFlow_15 rfl ?_
      refine r_icmp_ge C 25 dX0_hasFlow_18 (by decide) (by omega) (by omega) (fun hc3 => ?_) (fun hc3 => ?_)
      · skip
        refine r_iconst (z := 0) C dX0_hasFlow_25 rfl ?_
        exact MR_zret (d := (0 ≤ e ∧ e < p_edges P) ∧ 0 ≤ w ∧ w < (if p_callee P e = -1 then 1 else 3)) C hrt hlk dX0_hasFlow_26 (bI_f (by first | assumption | omega)).symm rfl
      · skip
        refine r_iconst (z := 1) C dX0_hasFlow_21 rfl ?_
        refine r_goto C 26 dX0_hasFlow_22 (by decide) ?_
        exact MR_zret (d := (0 ≤ e ∧ e < p_edges P) ∧ 0 ≤ w ∧ w < (if p_callee P e = -1 then 1 else 3)) C hrt hlk dX0_hasFlow_26 (bI_t (by first | assumption | omega)).symm rfl
set_option maxHeartbeats 4000000 in
set_option maxRecDepth 100000 in
theorem c_X0_reach (l : Launch) (g : GG) (o : Nat) (ad : Nat → Nat) (P : Pg) (e w a : Int) (he : 0 ≤ e ∧ e < 32) (hw : 0 ≤ w ∧ w < 3) (ha : 0 ≤ a ∧ a < 8) : MR l g yX0_reach cX0_reach 4 (some .int) 0 0 [.ref (o), .int (iI (e)), .int (iI (w)), .int (iI (a))] (pW g o ad P) (.int (iI (pReach P e w a))) := by
  refine MR_start (by decide) (Nat.le_of_ble_eq_true rfl) ?_
  intro zp ze zs zm zb zt zc C hrt hlk hH ls hl
  have hl : lv_has ls 4 [(0, .ref (o)), (1, .int (iI (e))), (2, .int (iI (w))), (3, .int (iI (a)))] := hl
  refine r_aload_n C dX0_reach_0 hl 0 rfl ?_
  refine r_get (v := .ref (ad 7)) C f_X0_46 hH 0 rfl rfl dX0_reach_1 ?_
  refine r_iload_n C dX0_reach_4 hl 1 rfl ?_
  refine r_iconst (z := 3) C dX0_reach_5 rfl ?_
  refine r_imul C dX0_reach_6 ?_
  refine r_iload_n C dX0_reach_7 hl 2 rfl ?_
  refine r_iadd C dX0_reach_8 ?_
  refine r_lald (f := p_flow P) C hH 8 rfl (Nat.le_of_ble_eq_true rfl) (by omega) dX0_reach_9 ?_
  refine r_iload_n C dX0_reach_10 hl 3 rfl ?_
  refine r_bipush (z := 8) C dX0_reach_11 rfl ?_
  refine r_imul C dX0_reach_13 ?_
  refine r_lushr8 C dX0_reach_14 ?_
  refine r_l2i C dX0_reach_15 ?_
  refine r_sipush (z := 255) C dX0_reach_16 rfl ?_
  refine r_iandby C (by omega) (by omega) dX0_reach_19 ?_
  have hb1 := byL_0 (p_flow P ((e * 3) + w)) a
  exact MR_iret C hrt hlk dX0_reach_20 (iv rfl)
set_option maxHeartbeats 4000000 in
set_option maxRecDepth 100000 in
theorem c_X0_carry (l : Launch) (g : GG) (o : Nat) (ad : Nat → Nat) (P : Pg) (e w x : Int) (he : 0 ≤ e ∧ e < 32) (hw : 0 ≤ w ∧ w < 3) (hx : 0 ≤ x ∧ x < 256) : MR l g yX0_carry cX0_carry 6 (some .int) 1 23 [.ref (o), .int (iI (e)), .int (iI (w)), .int (iI (x))] (pW g o ad P) (.int (iI (pCarry P e w x))) := by
  refine MR_start (by decide) (Nat.le_of_ble_eq_true rfl) ?_
  intro zp ze zs zm zb zt zc C hrt hlk hH ls hl
  have hl : lv_has ls 6 [(0, .ref (o)), (1, .int (iI (e))), (2, .int (iI (w))), (3, .int (iI (x)))] := hl
  refine r_iconst (z := 0) C dX0_carry_0 rfl ?_
  refine r_istore C [(4, .int (iI (0))), (0, .ref (o)), (1, .int (iI (e))), (2, .int (iI (w))), (3, .int (iI (x)))] dX0_carry_1 hl (by decide) rfl (fun ls hl => ?_)
  refine r_iconst (z := 0) C dX0_carry_3 rfl ?_
  refine r_istore C [(5, .int (iI (0))), (4, .int (iI (0))), (0, .ref (o)), (1, .int (iI (e))), (2, .int (iI (w))), (3, .int (iI (x)))] dX0_carry_4 hl (by decide) rfl (fun ls hl => ?_)
  have hloop6 : ∀ (k6 : Nat) (a r : Int) (hkk : a + k6 = 8) (ha : 0 ≤ a) (hr1 : 0 ≤ r ∧ r < 256) (hq : pCarry P e w x = it (fun a r => if tb x a = true then bO r (pReach P e w a) else r) k6 a r) (ls : Array Slot), lv_has ls 6 [(0, .ref (o)), (1, .int (iI (e))), (2, .int (iI (w))), (3, .int (iI (x))), (4, .int (iI (r))), (5, .int (iI (a)))] → W zp l ze (rmm 1 23) zs zm (List.toArray [.ref (o), .int (iI (e)), .int (iI (w)), .int (iI (x))]) zb zt zc zs.heap [] 0 0 (MQ zb (QR (.int (iI (pCarry P e w x)))) (List.toArray [.ref (o), .int (iI (e)), .int (iI (w)), .int (iI (x))]) zs 0 0 (fun _ => False)) (F0 zm 6 ls []) := by
    intro k6
    induction k6 with
    | zero =>
      intro a r hkk ha hr1 hq ls hl
      refine r_iload C dX0_carry_6 hl 5 rfl ?_
      refine r_bipush (z := 8) C dX0_carry_8 rfl ?_
      refine r_icmp_ge C 41 dX0_carry_10 (by decide) (by omega) (by omega) (fun hc1 => ?_) (fun hc1 => ?_)
      · skip
        refine r_iload C dX0_carry_41 hl 4 rfl ?_
        exact MR_iret C hrt hlk dX0_carry_43 (iv (by rw [hq]; rfl))
      · exact absurd hc1 (by omega)
    | succ k6 ih6 =>
      intro a r hkk ha hr1 hq ls hl
      refine r_iload C dX0_carry_6 hl 5 rfl ?_
      refine r_bipush (z := 8) C dX0_carry_8 rfl ?_
      refine r_icmp_ge C 41 dX0_carry_10 (by decide) (by omega) (by omega) (fun hc2 => ?_) (fun hc2 => ?_)
      · exact absurd hc2 (by omega)
      · skip
        refine r_iload_n C dX0_carry_13 hl 3 rfl ?_
        refine r_iload C dX0_carry_14 hl 5 rfl ?_
        refine r_callRN (rest := []) (r := .int (iI (bI (tb x a = true)))) C hl.1 (c_X4_has l g  x a (show 0 ≤ x ∧ x < 2147483648 by omega) (show 0 ≤ a ∧ a < 31 by omega)) v_X0_67 rfl (fun k q h => by simp at h) (by decide) (by decide) (Nat.le_of_ble_eq_true rfl) dX0_carry_16 rfl ?_
        refine r_ifb_eq C 35 dX0_carry_19 (by decide) (fun hc3 => ?_) (fun hc3 => ?_)
        · skip
          refine r_iinc (v := a + 1) C [(5, .int (iI (a + 1))), (0, .ref (o)), (1, .int (iI (e))), (2, .int (iI (w))), (3, .int (iI (x))), (4, .int (iI (r)))] dX0_carry_35 hl 5 rfl (by decide) (by omega) rfl (fun ls hl => ?_)
          refine r_goto C 6 dX0_carry_38 (by decide) ?_
          exact ih6 _ _ (by omega) (by omega) (by omega) (by rw [hq, it_s, if_neg hc3]) ls (lv_sub hl [1, 2, 3, 4, 5, 0] rfl)
        · skip
          refine r_iload C dX0_carry_22 hl 4 rfl ?_
          refine r_aload_n C dX0_carry_24 hl 0 rfl ?_
          refine r_iload_n C dX0_carry_25 hl 1 rfl ?_
          refine r_iload_n C dX0_carry_26 hl 2 rfl ?_
          refine r_iload C dX0_carry_27 hl 5 rfl ?_
          refine r_callR (rest := [.int (iI (r))]) (r := .int (iI (pReach P e w a))) C hl.1 (c_X0_reach l g o ad P e w a (show 0 ≤ e ∧ e < 32 by omega) (show 0 ≤ w ∧ w < 3 by omega) (show 0 ≤ a ∧ a < 8 by omega)) v_X0_71 rfl hH 0 rfl rfl rfl (by decide) (by decide) (Nat.le_of_ble_eq_true rfl) dX0_carry_29 rfl ?_
          have hq4 := pReach_r P e w a
          refine r_ior C (by omega) (by omega) dX0_carry_32 ?_
          have hb5 := bO_0 r (pReach P e w a)
          have hb6 : bO r (pReach P e w a) < 256 := bO_8 (by omega) (by omega)
          refine r_istore C [(4, .int (iI (bO r (pReach P e w a)))), (0, .ref (o)), (1, .int (iI (e))), (2, .int (iI (w))), (3, .int (iI (x))), (5, .int (iI (a)))] dX0_carry_33 hl (by decide) rfl (fun ls hl => ?_)
          refine r_iinc (v := a + 1) C [(5, .int (iI (a + 1))), (4, .int (iI (bO r (pReach P e w a)))), (0, .ref (o)), (1, .int (iI (e))), (2, .int (iI (w))), (3, .int (iI (x)))] dX0_carry_35 hl 5 rfl (by decide) (by omega) rfl (fun ls hl => ?_)
          refine r_goto C 6 dX0_carry_38 (by decide) ?_
          exact ih6 _ _ (by omega) (by omega) (by omega) (by rw [hq, it_s, if_pos hc3]) ls (lv_sub hl [2, 3, 4, 5, 1, 0] rfl)
  exact hloop6 8 0 0 (by omega) (by omega) (by omega) rfl ls (lv_sub hl [2, 3, 4, 5, 1, 0] rfl)

set_option maxHeartbeats 4000000 in
set_option maxRecDepth 100000 in
theorem c_X4_isFact (l : Launch) (g : GG) (f : Int) (hf : rg f) : MR l g yX4_isFact cX4_isFact 1 (some .boolean) 0 0 [.int (iI (f))] ([]) (.int (iI (bI (0 ≤ f ∧ f < 8)))) := by
  refine MR_start (by decide) (Nat.le_of_ble_eq_true rfl) ?_
  intro zp ze zs zm zb zt zc C hr hk hH ls hl
  have hl : lv_has ls 1 [(0, .int (iI (f)))] := hl
  refine r_iload_n C dX4_isFact_0 hl 0 rfl ?_
  refine r_if_lt C 14 dX4_isFact_1 (by decide) (by omega) (fun hc1 => ?_) (fun hc1 => ?_)
  · skip
    refine r_iconst (z := 0) C dX4_isFact_14 rfl ?_
    exact MR_zret (d := 0 ≤ f ∧ f < 8) C hr hk dX4_isFact_15 (bI_f (by first | assumption | omega)).symm rfl
  · skip
    refine r_iload_n C dX4_isFact_4 hl 0 rfl ?_
    refine r_bipush (z := 8) C dX4_isFact_5 rfl ?_
    refine r_icmp_ge C 14 dX4_isFact_7 (by decide) (by omega) (by omega) (fun hc2 => ?_) (fun hc2 => ?_)
    · skip
      refine r_iconst (z := 0) C dX4_isFact_14 rfl ?_
      exact MR_zret (d := 0 ≤ f ∧ f < 8) C hr hk dX4_isFact_15 (bI_f (by first | assumption | omega)).symm rfl
    · skip
      refine r_iconst (z := 1) C dX4_isFact_10 rfl ?_
      refine r_goto C 15 dX4_isFact_11 (by decide) ?_
      exact MR_zret (d := 0 ≤ f ∧ f < 8) C hr hk dX4_isFact_15 (bI_t (by first | assumption | omega)).symm rfl
set_option maxHeartbeats 4000000 in
set_option maxRecDepth 100000 in
theorem c_X4_isFacts (l : Launch) (g : GG) (v : Int) (hv : rg v) : MR l g yX4_isFacts cX4_isFacts 1 (some .boolean) 0 0 [.int (iI (v))] ([]) (.int (iI (bI (0 ≤ v ∧ v ≤ 255)))) := by
  refine MR_start (by decide) (Nat.le_of_ble_eq_true rfl) ?_
  intro zp ze zs zm zb zt zc C hr hk hH ls hl
  have hl : lv_has ls 1 [(0, .int (iI (v)))] := hl
  refine r_iload_n C dX4_isFacts_0 hl 0 rfl ?_
  refine r_if_lt C 15 dX4_isFacts_1 (by decide) (by omega) (fun hc1 => ?_) (fun hc1 => ?_)
  · skip
    refine r_iconst (z := 0) C dX4_isFacts_15 rfl ?_
    exact MR_zret (d := 0 ≤ v ∧ v ≤ 255) C hr hk dX4_isFacts_16 (bI_f (by first | assumption | omega)).symm rfl
  · skip
    refine r_iload_n C dX4_isFacts_4 hl 0 rfl ?_
    refine r_sipush (z := 255) C dX4_isFacts_5 rfl ?_
    refine r_icmp_gt C 15 dX4_isFacts_8 (by decide) (by omega) (by omega) (fun hc2 => ?_) (fun hc2 => ?_)
    · skip
      refine r_iconst (z := 0) C dX4_isFacts_15 rfl ?_
      exact MR_zret (d := 0 ≤ v ∧ v ≤ 255) C hr hk dX4_isFacts_16 (bI_f (by first | assumption | omega)).symm rfl
    · skip
      refine r_iconst (z := 1) C dX4_isFacts_11 rfl ?_
      refine r_goto C 16 dX4_isFacts_12 (by decide) ?_
      exact MR_zret (d := 0 ≤ v ∧ v ≤ 255) C hr hk dX4_isFacts_16 (bI_t (by first | assumption | omega)).symm rfl
set_option maxHeartbeats 4000000 in
set_option maxRecDepth 100000 in
theorem c_X4_has (l : Launch) (g : GG) (x f : Int) (hx : 0 ≤ x ∧ x < 2147483648) (hf : 0 ≤ f ∧ f < 31) : MR l g yX4_has cX4_has 2 (some .boolean) 0 0 [.int (iI (x)), .int (iI (f))] ([]) (.int (iI (bI (tb x f = true)))) := by
  refine MR_start (by decide) (Nat.le_of_ble_eq_true rfl) ?_
  intro zp ze zs zm zb zt zc C hr hk hH ls hl
  have hl : lv_has ls 2 [(0, .int (iI (x))), (1, .int (iI (f)))] := hl
  have hq := tb_bit (a := x) (k := f) (by omega) (by omega)
  refine r_iload_n C dX4_has_0 hl 0 rfl ?_
  refine r_iload_n C dX4_has_1 hl 1 rfl ?_
  refine r_ishr C (by omega) (by omega) (by omega) (by omega) dX4_has_2 ?_
  have hb1 : 0 ≤ x / p2 f := Int.ediv_nonneg (by omega) (Int.le_of_lt (p2_0 _))
  refine r_iconst (z := 1) C dX4_has_3 rfl ?_
  refine r_iand C (by omega) (by omega) dX4_has_4 ?_
  have hb2 := bA_0 (x / p2 f) 1
  have hb4 := Nat.and_le_right (n := (x / p2 f).toNat) (m := (1 : Int).toNat); have hb3 : bA (x / p2 f) 1 ≤ 1 := by unfold bA; omega
  refine r_if_eq C 12 dX4_has_5 (by decide) (by omega) (fun hc5 => ?_) (fun hc5 => ?_)
  · skip
    refine r_iconst (z := 0) C dX4_has_12 rfl ?_
    exact MR_zret (d := tb x f = true) C hr hk dX4_has_13 (bI_f (by intro h; rw [if_pos h] at hq; omega)).symm rfl
  · skip
    refine r_iconst (z := 1) C dX4_has_8 rfl ?_
    refine r_goto C 13 dX4_has_9 (by decide) ?_
    exact MR_zret (d := tb x f = true) C hr hk dX4_has_13 (bI_t (Decidable.byContradiction (fun h => by rw [if_neg h] at hq; omega))).symm rfl
set_option maxHeartbeats 4000000 in
set_option maxRecDepth 100000 in
theorem c_X4_cell (l : Launch) (g : GG) (n a : Int) : MR l g yX4_cell cX4_cell 2 (some .int) 0 0 [.int (iI (n)), .int (iI (a))] ([]) (.int (iI (n * 8 + a))) := by
  refine MR_start (by decide) (Nat.le_of_ble_eq_true rfl) ?_
  intro zp ze zs zm zb zt zc C hr hk hH ls hl
  have hl : lv_has ls 2 [(0, .int (iI (n))), (1, .int (iI (a)))] := hl
  refine r_iload_n C dX4_cell_0 hl 0 rfl ?_
  refine r_bipush (z := 8) C dX4_cell_1 rfl ?_
  refine r_imul C dX4_cell_3 ?_
  refine r_iload_n C dX4_cell_4 hl 1 rfl ?_
  refine r_iadd C dX4_cell_5 ?_
  exact MR_iret C hr hk dX4_cell_6 (iv rfl)
set_option maxHeartbeats 4000000 in
set_option maxRecDepth 100000 in
theorem c_X0_isProc (l : Launch) (g : GG) (o : Nat) (ad : Nat → Nat) (P : Pg) (n : Int) (hP : pOk P) (hn : rg n) : MR l g yX0_isProc cX0_isProc 2 (some .boolean) 0 0 [.ref (o), .int (iI (n))] (pW g o ad P) (.int (iI (bI (0 ≤ n ∧ n < p_procs P)))) := by
  refine MR_start (by decide) (Nat.le_of_ble_eq_true rfl) ?_
  intro zp ze zs zm zb zt zc C hr hk hH ls hl
  have hl : lv_has ls 2 [(0, .ref (o)), (1, .int (iI (n)))] := hl
  obtain ⟨hP_procs, hP_nodes, hP_edges, hP_start, hP_entryOf, hP_exitOf, hP_procOf, hP_kindOf, hP_from, hP_to, hP_callee⟩ := id hP
  refine r_iload_n C dX0_isProc_0 hl 1 rfl ?_
  refine r_if_lt C 16 dX0_isProc_1 (by decide) (by omega) (fun hc1 => ?_) (fun hc1 => ?_)
  · skip
    refine r_iconst (z := 0) C dX0_isProc_16 rfl ?_
    exact MR_zret (d := 0 ≤ n ∧ n < p_procs P) C hr hk dX0_isProc_17 (bI_f (by first | assumption | omega)).symm rfl
  · skip
    refine r_iload_n C dX0_isProc_4 hl 1 rfl ?_
    refine r_aload_n C dX0_isProc_5 hl 0 rfl ?_
    refine r_get (v := .int (iI (p_procs P))) C f_X0_9 hH 0 rfl rfl dX0_isProc_6 ?_
    refine r_icmp_ge C 16 dX0_isProc_9 (by decide) (by omega) (by omega) (fun hc2 => ?_) (fun hc2 => ?_)
    · skip
      refine r_iconst (z := 0) C dX0_isProc_16 rfl ?_
      exact MR_zret (d := 0 ≤ n ∧ n < p_procs P) C hr hk dX0_isProc_17 (bI_f (by first | assumption | omega)).symm rfl
    · skip
      refine r_iconst (z := 1) C dX0_isProc_12 rfl ?_
      refine r_goto C 17 dX0_isProc_13 (by decide) ?_
      exact MR_zret (d := 0 ≤ n ∧ n < p_procs P) C hr hk dX0_isProc_17 (bI_t (by first | assumption | omega)).symm rfl
set_option maxHeartbeats 4000000 in
set_option maxRecDepth 100000 in
theorem c_X0_isNode (l : Launch) (g : GG) (o : Nat) (ad : Nat → Nat) (P : Pg) (n : Int) (hP : pOk P) (hn : rg n) : MR l g yX0_isNode cX0_isNode 2 (some .boolean) 0 0 [.ref (o), .int (iI (n))] (pW g o ad P) (.int (iI (bI (0 ≤ n ∧ n < p_nodes P)))) := by
  refine MR_start (by decide) (Nat.le_of_ble_eq_true rfl) ?_
  intro zp ze zs zm zb zt zc C hr hk hH ls hl
  have hl : lv_has ls 2 [(0, .ref (o)), (1, .int (iI (n)))] := hl
  obtain ⟨hP_procs, hP_nodes, hP_edges, hP_start, hP_entryOf, hP_exitOf, hP_procOf, hP_kindOf, hP_from, hP_to, hP_callee⟩ := id hP
  refine r_iload_n C dX0_isNode_0 hl 1 rfl ?_
  refine r_if_lt C 16 dX0_isNode_1 (by decide) (by omega) (fun hc1 => ?_) (fun hc1 => ?_)
  · skip
    refine r_iconst (z := 0) C dX0_isNode_16 rfl ?_
    exact MR_zret (d := 0 ≤ n ∧ n < p_nodes P) C hr hk dX0_isNode_17 (bI_f (by first | assumption | omega)).symm rfl
  · skip
    refine r_iload_n C dX0_isNode_4 hl 1 rfl ?_
    refine r_aload_n C dX0_isNode_5 hl 0 rfl ?_
    refine r_get (v := .int (iI (p_nodes P))) C f_X0_15 hH 0 rfl rfl dX0_isNode_6 ?_
    refine r_icmp_ge C 16 dX0_isNode_9 (by decide) (by omega) (by omega) (fun hc2 => ?_) (fun hc2 => ?_)
    · skip
      refine r_iconst (z := 0) C dX0_isNode_16 rfl ?_
      exact MR_zret (d := 0 ≤ n ∧ n < p_nodes P) C hr hk dX0_isNode_17 (bI_f (by first | assumption | omega)).symm rfl
    · skip
      refine r_iconst (z := 1) C dX0_isNode_12 rfl ?_
      refine r_goto C 17 dX0_isNode_13 (by decide) ?_
      exact MR_zret (d := 0 ≤ n ∧ n < p_nodes P) C hr hk dX0_isNode_17 (bI_t (by first | assumption | omega)).symm rfl
set_option maxHeartbeats 4000000 in
set_option maxRecDepth 100000 in
theorem c_X0_isEdge (l : Launch) (g : GG) (o : Nat) (ad : Nat → Nat) (P : Pg) (n : Int) (hP : pOk P) (hn : rg n) : MR l g yX0_isEdge cX0_isEdge 2 (some .boolean) 0 0 [.ref (o), .int (iI (n))] (pW g o ad P) (.int (iI (bI (0 ≤ n ∧ n < p_edges P)))) := by
  refine MR_start (by decide) (Nat.le_of_ble_eq_true rfl) ?_
  intro zp ze zs zm zb zt zc C hr hk hH ls hl
  have hl : lv_has ls 2 [(0, .ref (o)), (1, .int (iI (n)))] := hl
  obtain ⟨hP_procs, hP_nodes, hP_edges, hP_start, hP_entryOf, hP_exitOf, hP_procOf, hP_kindOf, hP_from, hP_to, hP_callee⟩ := id hP
  refine r_iload_n C dX0_isEdge_0 hl 1 rfl ?_
  refine r_if_lt C 16 dX0_isEdge_1 (by decide) (by omega) (fun hc1 => ?_) (fun hc1 => ?_)
  · skip
    refine r_iconst (z := 0) C dX0_isEdge_16 rfl ?_
    exact MR_zret (d := 0 ≤ n ∧ n < p_edges P) C hr hk dX0_isEdge_17 (bI_f (by first | assumption | omega)).symm rfl
  · skip
    refine r_iload_n C dX0_isEdge_4 hl 1 rfl ?_
    refine r_aload_n C dX0_isEdge_5 hl 0 rfl ?_
    refine r_get (v := .int (iI (p_edges P))) C f_X0_18 hH 0 rfl rfl dX0_isEdge_6 ?_
    refine r_icmp_ge C 16 dX0_isEdge_9 (by decide) (by omega) (by omega) (fun hc2 => ?_) (fun hc2 => ?_)
    · skip
      refine r_iconst (z := 0) C dX0_isEdge_16 rfl ?_
      exact MR_zret (d := 0 ≤ n ∧ n < p_edges P) C hr hk dX0_isEdge_17 (bI_f (by first | assumption | omega)).symm rfl
    · skip
      refine r_iconst (z := 1) C dX0_isEdge_12 rfl ?_
      refine r_goto C 17 dX0_isEdge_13 (by decide) ?_
      exact MR_zret (d := 0 ≤ n ∧ n < p_edges P) C hr hk dX0_isEdge_17 (bI_t (by first | assumption | omega)).symm rfl
set_option maxHeartbeats 4000000 in
set_option maxRecDepth 100000 in
theorem c_X0_joins (l : Launch) (g : GG) (o : Nat) (ad : Nat → Nat) (P : Pg) (n k : Int) (hP : pOk P) (hn : rg n) (hm : rg k) : MR l g yX0_joins cX0_joins 3 (some .boolean) 1 21 [.ref (o), .int (iI (n)), .int (iI (k))] (pW g o ad P) (.int (iI (bI ((0 ≤ n ∧ n < p_nodes P) ∧ (0 ≤ k ∧ k < p_nodes P) ∧ p_procOf P n = p_procOf P k ∧ p_kindOf P n ≠ 1 ∧ p_kindOf P k ≠ 0)))) := by
  refine MR_start (by decide) (Nat.le_of_ble_eq_true rfl) ?_
  intro zp ze zs zm zb zt zc C hr hk hH ls hl
  have hl : lv_has ls 3 [(0, .ref (o)), (1, .int (iI (n))), (2, .int (iI (k)))] := hl
  obtain ⟨hP_procs, hP_nodes, hP_edges, hP_start, hP_entryOf, hP_exitOf, hP_procOf, hP_kindOf, hP_from, hP_to, hP_callee⟩ := id hP
  refine r_aload_n C dX0_joins_0 hl 0 rfl ?_
  refine r_iload_n C dX0_joins_1 hl 1 rfl ?_
  refine r_callR (rest := []) (r := .int (iI (bI (0 ≤ n ∧ n < p_nodes P)))) C hl.1 (c_X0_isNode l g o ad P n (by assumption) (by omega)) v_X0_56 rfl hH 0 rfl rfl rfl (by decide) (by decide) (Nat.le_of_ble_eq_true rfl) dX0_joins_2 rfl ?_
  refine r_ifb_eq C 54 dX0_joins_5 (by decide) (fun hc1 => ?_) (fun hc1 => ?_)
  · skip
    refine r_iconst (z := 0) C dX0_joins_54 rfl ?_
    exact MR_zret (d := (0 ≤ n ∧ n < p_nodes P) ∧ (0 ≤ k ∧ k < p_nodes P) ∧ p_procOf P n = p_procOf P k ∧ p_kindOf P n ≠ 1 ∧ p_kindOf P k ≠ 0) C hr hk dX0_joins_55 (bI_f (by first | assumption | omega)).symm rfl
  · skip
    refine r_aload_n C dX0_joins_8 hl 0 rfl ?_
    refine r_iload_n C dX0_joins_9 hl 2 rfl ?_
    refine r_callR (rest := []) (r := .int (iI (bI (0 ≤ k ∧ k < p_nodes P)))) C hl.1 (c_X0_isNode l g o ad P k (by assumption) (by omega)) v_X0_56 rfl hH 0 rfl rfl rfl (by decide) (by decide) (Nat.le_of_ble_eq_true rfl) dX0_joins_10 rfl ?_
    refine r_ifb_eq C 54 dX0_joins_13 (by decide) (fun hc2 => ?_) (fun hc2 => ?_)
    · skip
      refine r_iconst (z := 0) C dX0_joins_54 rfl ?_
      exact MR_zret (d := (0 ≤ n ∧ n < p_nodes P) ∧ (0 ≤ k ∧ k < p_nodes P) ∧ p_procOf P n = p_procOf P k ∧ p_kindOf P n ≠ 1 ∧ p_kindOf P k ≠ 0) C hr hk dX0_joins_55 (bI_f (by first | assumption | omega)).symm rfl
    · skip
      refine r_aload_n C dX0_joins_16 hl 0 rfl ?_
      refine r_get (v := .ref (ad 2)) C f_X0_31 hH 0 rfl rfl dX0_joins_17 ?_
      refine r_iload_n C dX0_joins_20 hl 1 rfl ?_
      refine r_iald (f := p_procOf P) C hH 3 rfl (Nat.le_of_ble_eq_true rfl) (by omega) dX0_joins_21 ?_
      have hr3 := hP_procOf n (by omega) (by omega)
      refine r_aload_n C dX0_joins_22 hl 0 rfl ?_
      refine r_get (v := .ref (ad 2)) C f_X0_31 hH 0 rfl rfl dX0_joins_23 ?_
      refine r_iload_n C dX0_joins_26 hl 2 rfl ?_
      refine r_iald (f := p_procOf P) C hH 3 rfl (Nat.le_of_ble_eq_true rfl) (by omega) dX0_joins_27 ?_
      have hr4 := hP_procOf k (by omega) (by omega)
      refine r_icmp_ne C 54 dX0_joins_28 (by decide) (by omega) (by omega) (fun hc5 => ?_) (fun hc5 => ?_)
      · skip
        refine r_iconst (z := 0) C dX0_joins_54 rfl ?_
        exact MR_zret (d := (0 ≤ n ∧ n < p_nodes P) ∧ (0 ≤ k ∧ k < p_nodes P) ∧ p_procOf P n = p_procOf P k ∧ p_kindOf P n ≠ 1 ∧ p_kindOf P k ≠ 0) C hr hk dX0_joins_55 (bI_f (by first | assumption | omega)).symm rfl
      · skip
        refine r_aload_n C dX0_joins_31 hl 0 rfl ?_
        refine r_get (v := .ref (ad 3)) C f_X0_34 hH 0 rfl rfl dX0_joins_32 ?_
        refine r_iload_n C dX0_joins_35 hl 1 rfl ?_
        refine r_iald (f := p_kindOf P) C hH 4 rfl (Nat.le_of_ble_eq_true rfl) (by omega) dX0_joins_36 ?_
        have hr6 := hP_kindOf n (by omega) (by omega)
        refine r_iconst (z := 1) C dX0_joins_37 rfl ?_
        refine r_icmp_eq C 54 dX0_joins_38 (by decide) (by omega) (by omega) (fun hc7 => ?_) (fun hc7 => ?_)
        · skip
          refine r_iconst (z := 0) C dX0_joins_54 rfl ?_
          exact MR_zret (d := (0 ≤ n ∧ n < p_nodes P) ∧ (0 ≤ k ∧ k < p_nodes P) ∧ p_procOf P n = p_procOf P k ∧ p_kindOf P n ≠ 1 ∧ p_kindOf P k ≠ 0) C hr hk dX0_joins_55 (bI_f (by first | assumption | omega)).symm rfl
        · skip
          refine r_aload_n C dX0_joins_41 hl 0 rfl ?_
          refine r_get (v := .ref (ad 3)) C f_X0_34 hH 0 rfl rfl dX0_joins_42 ?_
          refine r_iload_n C dX0_joins_45 hl 2 rfl ?_
          refine r_iald (f := p_kindOf P) C hH 4 rfl (Nat.le_of_ble_eq_true rfl) (by omega) dX0_joins_46 ?_
          have hr8 := hP_kindOf k (by omega) (by omega)
          refine r_if_eq C 54 dX0_joins_47 (by decide) (by omega) (fun hc9 => ?_) (fun hc9 => ?_)
          · skip
            refine r_iconst (z := 0) C dX0_joins_54 rfl ?_
            exact MR_zret (d := (0 ≤ n ∧ n < p_nodes P) ∧ (0 ≤ k ∧ k < p_nodes P) ∧ p_procOf P n = p_procOf P k ∧ p_kindOf P n ≠ 1 ∧ p_kindOf P k ≠ 0) C hr hk dX0_joins_55 (bI_f (by first | assumption | omega)).symm rfl
          · skip
            refine r_iconst (z := 1) C dX0_joins_50 rfl ?_
            refine r_goto C 55 dX0_joins_51 (by decide) ?_
            exact MR_zret (d := (0 ≤ n ∧ n < p_nodes P) ∧ (0 ≤ k ∧ k < p_nodes P) ∧ p_procOf P n = p_procOf P k ∧ p_kindOf P n ≠ 1 ∧ p_kindOf P k ≠ 0) C hr hk dX0_joins_55 (bI_t (by first | assumption | omega)).symm rfl
set_option maxHeartbeats 4000000 in
set_option maxRecDepth 100000 in
theorem c_X0_flowsOf (l : Launch) (g : GG) (o : Nat) (ad : Nat → Nat) (P : Pg) (e : Int) (hP : pOk P) (he : 0 ≤ e ∧ e < 32) : MR l g yX0_flowsOf cX0_flowsOf 2 (some .int) 0 0 [.ref (o), .int (iI (e))] (pW g o ad P) (.int (iI (if p_callee P e = -1 then 1 else 3))) := by
  refine MR_start (by decide) (Nat.le_of_ble_eq_true rfl) ?_
  intro zp ze zs zm zb zt zc C hr hk hH ls hl
  have hl : lv_has ls 2 [(0, .ref (o)), (1, .int (iI (e)))] := hl
  obtain ⟨hP_procs, hP_nodes, hP_edges, hP_start, hP_entryOf, hP_exitOf, hP_procOf, hP_kindOf, hP_from, hP_to, hP_callee⟩ := id hP
  refine r_aload_n C dX0_flowsOf_0 hl 0 rfl ?_
  refine r_get (v := .ref (ad 6)) C f_X0_43 hH 0 rfl rfl dX0_flowsOf_1 ?_
  refine r_iload_n C dX0_flowsOf_4 hl 1 rfl ?_
  refine r_iald (f := p_callee P) C hH 7 rfl (Nat.le_of_ble_eq_true rfl) (by omega) dX0_flowsOf_5 ?_
  have hr1 := hP_callee e (by omega) (by omega)
  refine r_iconst (z := -1) C dX0_flowsOf_6 rfl ?_
  refine r_icmp_ne C 14 dX0_flowsOf_7 (by decide) (by omega) (by omega) (fun hc2 => ?_) (fun hc2 => ?_)
  · skip
    refine r_iconst (z := 3) C dX0_flowsOf_14 rfl ?_
    exact MR_iret C hr hk dX0_flowsOf_15 (iv (by split <;> omega))
  · skip
    refine r_iconst (z := 1) C dX0_flowsOf_10 rfl ?_
    refine r_goto C 15 dX0_flowsOf_11 (by decide) ?_
    exact MR_iret C hr hk dX0_flowsOf_15 (iv (by split <;> omega))
set_option maxHeartbeats 4000000 in
set_option maxRecDepth 100000 in
theorem c_X0_hasFlow (l : Launch) (g : GG) (o : Nat) (ad : Nat → Nat) (P : Pg) (e w : Int) (hP : pOk P) (he : rg e) (hw : rg w) : MR l g yX0_hasFlow cX0_hasFlow 3 (some .boolean) 1 21 [.ref (o), .int (iI (e)), .int (iI (w))] (pW g o ad P) (.int (iI (bI ((0 ≤ e ∧ e < p_edges P) ∧ 0 ≤ w ∧ w < (if p_callee P e = -1 then 1 else 3))))) := by
  refine MR_start (by decide) (Nat.le_of_ble_eq_true rfl) ?_
  intro zp ze zs zm zb zt zc C hr hk hH ls hl
  have hl : lv_has ls 3 [(0, .ref (o)), (1, .int (iI (e))), (2, .int (iI (w)))] := hl
  obtain ⟨hP_procs, hP_nodes, hP_edges, hP_start, hP_entryOf, hP_exitOf, hP_procOf, hP_kindOf, hP_from, hP_to, hP_callee⟩ := id hP
  refine r_aload_n C dX0_hasFlow_0 hl 0 rfl ?_
  refine r_iload_n C dX0_hasFlow_1 hl 1 rfl ?_
  refine r_callR (rest := []) (r := .int (iI (bI (0 ≤ e ∧ e < p_edges P)))) C hl.1 (c_X0_isEdge l g o ad P e (by assumption) (by omega)) v_X0_60 rfl hH 0 rfl rfl rfl (by decide) (by decide) (Nat.le_of_ble_eq_true rfl) dX0_hasFlow_2 rfl ?_
  refine r_ifb_eq C 25 dX0_hasFlow_5 (by decide) (fun hc1 => ?_) (fun hc1 => ?_)
  · skip
    refine r_iconst (z := 0) C dX0_hasFlow_25 rfl ?_
    exact MR_zret (d := (0 ≤ e ∧ e < p_edges P) ∧ 0 ≤ w ∧ w < (if p_callee P e = -1 then 1 else 3)) C hr hk dX0_hasFlow_26 (bI_f (by first | assumption | omega)).symm rfl
  · skip
    refine r_iload_n C dX0_hasFlow_8 hl 2 rfl ?_
    refine r_if_lt C 25 dX0_hasFlow_9 (by decide) (by omega) (fun hc2 => ?_) (fun hc2 => ?_)
    · skip
      refine r_iconst (z := 0) C dX0_hasFlow_25 rfl ?_
      exact MR_zret (d := (0 ≤ e ∧ e < p_edges P) ∧ 0 ≤ w ∧ w < (if p_callee P e = -1 then 1 else 3)) C hr hk dX0_hasFlow_26 (bI_f (by first | assumption | omega)).symm rfl
    · skip
      refine r_iload_n C dX0_hasFlow_12 hl 2 rfl ?_
      refine r_aload_n C dX0_hasFlow_13 hl 0 rfl ?_
      refine r_iload_n C dX0_hasFlow_14 hl 1 rfl ?_
      refine r_callR (rest := [.int (iI (w))]) (r := .int (iI (if p_callee P e = -1 then 1 else 3))) C hl.1 (c_X0_flowsOf l g o ad P e (by assumption) (by omega)) v_X0_63 rfl hH 0 rfl rfl rfl (by decide) (by decide) (Nat.le_of_ble_eq_true rfl) dX0_hasFlow_15 rfl ?_
      refine r_icmp_ge C 25 dX0_hasFlow_18 (by decide) (by omega) (by omega) (fun hc3 => ?_) (fun hc3 => ?_)
      · skip
        refine r_iconst (z := 0) C dX0_hasFlow_25 rfl ?_
        exact MR_zret (d := (0 ≤ e ∧ e < p_edges P) ∧ 0 ≤ w ∧ w < (if p_callee P e = -1 then 1 else 3)) C hr hk dX0_hasFlow_26 (bI_f (by first | assumption | omega)).symm rfl
      · skip
        refine r_iconst (z := 1) C dX0_hasFlow_21 rfl ?_
        refine r_goto C 26 dX0_hasFlow_22 (by decide) ?_
        exact MR_zret (d := (0 ≤ e ∧ e < p_edges P) ∧ 0 ≤ w ∧ w < (if p_callee P e = -1 then 1 else 3)) C hr hk dX0_hasFlow_26 (bI_t (by first | assumption | omega)).symm rfl

set_option maxHeartbeats 4000000 in
set_option maxRecDepth 100000 in
theorem c_X0_placeNode (l : Launch) (g : GG) (o : Nat) (ad : Nat → Nat) (P : Pg) (n k : Int) (hn : 0 ≤ p_nodes P ∧ p_nodes P < 24) : MW l g yX0_placeNode cX0_placeNode 3 (some .int) 0 0 [.ref (o), .int (iI (n)), .int (iI (k))] (pW g o ad P) (pW g o ad (ps_nodes (ps_kindOf (ps_procOf P (up (p_procOf P) (p_nodes P) n)) (up (p_kindOf P) (p_nodes P) k)) (p_nodes P + 1))) (some (.int (iI (p_nodes P)))) := by
  refine MW_start (by decide) (Nat.le_of_ble_eq_true rfl) ?_
  intro zp ze zs zm zb zt zc A hAe C hrt hlk hW ls hl
  have hA : ∀ q, zs.heap.size ≤ q → A q := fun q h => by rw [hAe]; exact Or.inr h
  have hl : lv_has ls 3 [(0, .ref (o)), (1, .int (iI (n))), (2, .int (iI (k)))] := hl
  refine r_aload_n C dX0_placeNode_0 hl 0 rfl ?_
  refine r_get (v := .ref (ad 2)) C f_X0_31 hW.1 0 rfl rfl dX0_placeNode_1 ?_
  refine r_aload_n C dX0_placeNode_4 hl 0 rfl ?_
  refine r_get (v := .int (iI (p_nodes P))) C f_X0_15 hW.1 0 rfl rfl dX0_placeNode_5 ?_
  refine r_iload_n C dX0_placeNode_8 hl 1 rfl ?_
  refine r_iast (f := p_procOf P) C hW (pW g o ad (ps_procOf P (up (p_procOf P) (p_nodes P) n))) 3 rfl (Nat.le_of_ble_eq_true rfl) (by omega) rfl dX0_placeNode_9 (fun H locs hW => ?_)
  refine r_aload_n C dX0_placeNode_10 hl 0 rfl ?_
  refine r_get (v := .ref (ad 3)) C f_X0_34 hW.1 0 rfl rfl dX0_placeNode_11 ?_
  refine r_aload_n C dX0_placeNode_14 hl 0 rfl ?_
  refine r_get (v := .int (iI (p_nodes P))) C f_X0_15 hW.1 0 rfl rfl dX0_placeNode_15 ?_
  refine r_iload_n C dX0_placeNode_18 hl 2 rfl ?_
  refine r_iast (f := p_kindOf P) C hW (pW g o ad (ps_kindOf (ps_procOf P (up (p_procOf P) (p_nodes P) n)) (up (p_kindOf P) (p_nodes P) k))) 4 rfl (Nat.le_of_ble_eq_true rfl) (by omega) rfl dX0_placeNode_19 (fun H locs hW => ?_)
  refine r_aload_n C dX0_placeNode_20 hl 0 rfl ?_
  refine r_dup C rfl dX0_placeNode_21 ?_
  refine r_get (v := .int (iI (p_nodes P))) C f_X0_15 hW.1 0 rfl rfl dX0_placeNode_22 ?_
  refine r_dup_x1 C rfl rfl dX0_placeNode_25 ?_
  refine r_iconst (z := 1) C dX0_placeNode_26 rfl ?_
  refine r_iadd C dX0_placeNode_27 ?_
  refine r_put C f_X0_15 fp_0_1 hW (pW g o ad (ps_nodes (ps_kindOf (ps_procOf P (up (p_procOf P) (p_nodes P) n)) (up (p_kindOf P) (p_nodes P) k)) ((p_nodes P) + 1))) 0 rfl rfl rfl (Nat.le_of_ble_eq_true rfl) rfl dX0_placeNode_28 (fun H locs hW => ?_)
  exact MW_iret C hAe hrt hlk hW dX0_placeNode_31 (iw rfl) rfl
set_option maxHeartbeats 4000000 in
set_option maxRecDepth 100000 in
theorem c_X0_addProc (l : Launch) (g : GG) (o : Nat) (ad : Nat → Nat) (P : Pg) (hP : pOk P) : MW l g yX0_addProc cX0_addProc 1 (some .int) 1 22 [.ref (o)] (pW g o ad P) (pW g o ad ((pAddProc P).2)) (some (.int (iI ((pAddProc P).1)))) := by
  refine MW_start (by decide) (Nat.le_of_ble_eq_true rfl) ?_
  intro zp ze zs zm zb zt zc A hAe C hrt hlk hW ls hl
  have hA : ∀ q, zs.heap.size ≤ q → A q := fun q h => by rw [hAe]; exact Or.inr h
  have hl : lv_has ls 1 [(0, .ref (o))] := hl
  obtain ⟨hP_procs, hP_nodes, hP_edges, hP_start, hP_entryOf, hP_exitOf, hP_procOf, hP_kindOf, hP_from, hP_to, hP_callee⟩ := id hP
  refine r_aload_n C dX0_addProc_0 hl 0 rfl ?_
  refine r_get (v := .int (iI (p_procs P))) C f_X0_9 hW.1 0 rfl rfl dX0_addProc_1 ?_
  refine r_iconst (z := 5) C dX0_addProc_4 rfl ?_
  refine r_icmp_ge C 19 dX0_addProc_5 (by decide) (by omega) (by omega) (fun hc1 => ?_) (fun hc1 => ?_)
  · skip
    refine r_bipush (z := -4) C dX0_addProc_19 rfl ?_
    have hE : pAddProc P = (-4, P) := by unfold pAddProc; (repeat' split) <;> first | rfl | (exfalso; omega)
    exact MW_iret C hAe hrt hlk hW dX0_addProc_21 (iw (by rw [hE])) (by rw [hE])
  · skip
    refine r_aload_n C dX0_addProc_8 hl 0 rfl ?_
    refine r_get (v := .int (iI (p_nodes P))) C f_X0_15 hW.1 0 rfl rfl dX0_addProc_9 ?_
    refine r_iconst (z := 2) C dX0_addProc_12 rfl ?_
    refine r_iadd C dX0_addProc_13 ?_
    refine r_bipush (z := 24) C dX0_addProc_14 rfl ?_
    refine r_icmp_le C 22 dX0_addProc_16 (by decide) (by omega) (by omega) (fun hc2 => ?_) (fun hc2 => ?_)
    · skip
      refine r_aload_n C dX0_addProc_22 hl 0 rfl ?_
      refine r_get (v := .ref (ad 0)) C f_X0_24 hW.1 0 rfl rfl dX0_addProc_23 ?_
      refine r_aload_n C dX0_addProc_26 hl 0 rfl ?_
      refine r_get (v := .int (iI (p_procs P))) C f_X0_9 hW.1 0 rfl rfl dX0_addProc_27 ?_
      refine r_aload_n C dX0_addProc_30 hl 0 rfl ?_
      refine r_get (v := .int (iI (p_nodes P))) C f_X0_15 hW.1 0 rfl rfl dX0_addProc_31 ?_
      refine r_iast (f := p_entryOf P) C hW (pW g o ad (ps_entryOf P (up (p_entryOf P) (p_procs P) (p_nodes P)))) 1 rfl (Nat.le_of_ble_eq_true rfl) (by omega) rfl dX0_addProc_34 (fun H locs hW => ?_)
      refine r_aload_n C dX0_addProc_35 hl 0 rfl ?_
      refine r_aload_n C dX0_addProc_36 hl 0 rfl ?_
      refine r_get (v := .int (iI (p_procs P))) C f_X0_9 hW.1 0 rfl rfl dX0_addProc_37 ?_
      refine r_iconst (z := 0) C dX0_addProc_40 rfl ?_
      refine r_callW (rest := []) (r := some (.int (iI ((p_nodes P))))) (wr := []) (ws2 := pW g o ad (ps_nodes (ps_kindOf (ps_procOf (ps_entryOf P (up (p_entryOf P) (p_procs P) (p_nodes P))) (up ((p_procOf P)) ((p_nodes P)) (p_procs P))) (up ((p_kindOf P)) ((p_nodes P)) 0)) ((p_nodes P) + 1))) (st1 := [.int (iI ((p_nodes P)))]) C hl.1 hW hA (c_X0_placeNode l g o ad (ps_entryOf P (up (p_entryOf P) (p_procs P) (p_nodes P))) (p_procs P) 0 (show 0 ≤ (p_nodes P) ∧ (p_nodes P) < 24 by omega)) v_X0_75 rfl [0, 1, 2, 3, 4, 5, 6, 7, 8] [] [0, 1, 2, 3, 4, 5, 6, 7, 8] rfl rfl (by decide) (by decide) rfl rfl 0 rfl rfl rfl (by decide) (by decide) (Nat.le_of_ble_eq_true rfl) dX0_addProc_41 rfl rfl (fun H locs hW => ?_)
      refine r_pop C rfl dX0_addProc_44 ?_
      refine r_aload_n C dX0_addProc_45 hl 0 rfl ?_
      refine r_get (v := .ref (ad 1)) C f_X0_28 hW.1 0 rfl rfl dX0_addProc_46 ?_
      refine r_aload_n C dX0_addProc_49 hl 0 rfl ?_
      refine r_get (v := .int (iI (p_procs P))) C f_X0_9 hW.1 0 rfl rfl dX0_addProc_50 ?_
      refine r_aload_n C dX0_addProc_53 hl 0 rfl ?_
      refine r_get (v := .int (iI ((p_nodes P) + 1))) C f_X0_15 hW.1 0 rfl rfl dX0_addProc_54 ?_
      refine r_iast (f := p_exitOf P) C hW (pW g o ad (ps_exitOf (ps_nodes (ps_kindOf (ps_procOf (ps_entryOf P (up (p_entryOf P) (p_procs P) (p_nodes P))) (up ((p_procOf P)) ((p_nodes P)) (p_procs P))) (up ((p_kindOf P)) ((p_nodes P)) 0)) ((p_nodes P) + 1)) (up (p_exitOf P) (p_procs P) ((p_nodes P) + 1)))) 2 rfl (Nat.le_of_ble_eq_true rfl) (by omega) rfl dX0_addProc_57 (fun H locs hW => ?_)
      refine r_aload_n C dX0_addProc_58 hl 0 rfl ?_
      refine r_aload_n C dX0_addProc_59 hl 0 rfl ?_
      refine r_get (v := .int (iI (p_procs P))) C f_X0_9 hW.1 0 rfl rfl dX0_addProc_60 ?_
      refine r_iconst (z := 1) C dX0_addProc_63 rfl ?_
      refine r_callW (rest := []) (r := some (.int (iI (((p_nodes P) + 1))))) (wr := []) (ws2 := pW g o ad (ps_nodes (ps_kindOf (ps_procOf (ps_exitOf (ps_nodes (ps_kindOf (ps_procOf (ps_entryOf P (up (p_entryOf P) (p_procs P) (p_nodes P))) (up ((p_procOf P)) ((p_nodes P)) (p_procs P))) (up ((p_kindOf P)) ((p_nodes P)) 0)) ((p_nodes P) + 1)) (up (p_exitOf P) (p_procs P) ((p_nodes P) + 1))) (up ((up ((p_procOf P)) ((p_nodes P)) (p_procs P))) (((p_nodes P) + 1)) (p_procs P))) (up ((up ((p_kindOf P)) ((p_nodes P)) 0)) (((p_nodes P) + 1)) 1)) (((p_nodes P) + 1) + 1))) (st1 := [.int (iI (((p_nodes P) + 1)))]) C hl.1 hW hA (c_X0_placeNode l g o ad (ps_exitOf (ps_nodes (ps_kindOf (ps_procOf (ps_entryOf P (up (p_entryOf P) (p_procs P) (p_nodes P))) (up ((p_procOf P)) ((p_nodes P)) (p_procs P))) (up ((p_kindOf P)) ((p_nodes P)) 0)) ((p_nodes P) + 1)) (up (p_exitOf P) (p_procs P) ((p_nodes P) + 1))) (p_procs P) 1 (show 0 ≤ ((p_nodes P) + 1) ∧ ((p_nodes P) + 1) < 24 by omega)) v_X0_75 rfl [0, 1, 2, 3, 4, 5, 6, 7, 8] [] [0, 1, 2, 3, 4, 5, 6, 7, 8] rfl rfl (by decide) (by decide) rfl rfl 0 rfl rfl rfl (by decide) (by decide) (Nat.le_of_ble_eq_true rfl) dX0_addProc_64 rfl rfl (fun H locs hW => ?_)
      refine r_pop C rfl dX0_addProc_67 ?_
      refine r_aload_n C dX0_addProc_68 hl 0 rfl ?_
      refine r_dup C rfl dX0_addProc_69 ?_
      refine r_get (v := .int (iI (p_procs P))) C f_X0_9 hW.1 0 rfl rfl dX0_addProc_70 ?_
      refine r_dup_x1 C rfl rfl dX0_addProc_73 ?_
      refine r_iconst (z := 1) C dX0_addProc_74 rfl ?_
      refine r_iadd C dX0_addProc_75 ?_
      refine r_put C f_X0_9 fp_0_0 hW (pW g o ad (ps_procs (ps_nodes (ps_kindOf (ps_procOf (ps_exitOf (ps_nodes (ps_kindOf (ps_procOf (ps_entryOf P (up (p_entryOf P) (p_procs P) (p_nodes P))) (up ((p_procOf P)) ((p_nodes P)) (p_procs P))) (up ((p_kindOf P)) ((p_nodes P)) 0)) ((p_nodes P) + 1)) (up (p_exitOf P) (p_procs P) ((p_nodes P) + 1))) (up ((up ((p_procOf P)) ((p_nodes P)) (p_procs P))) (((p_nodes P) + 1)) (p_procs P))) (up ((up ((p_kindOf P)) ((p_nodes P)) 0)) (((p_nodes P) + 1)) 1)) (((p_nodes P) + 1) + 1)) ((p_procs P) + 1))) 0 rfl rfl rfl (Nat.le_of_ble_eq_true rfl) rfl dX0_addProc_76 (fun H locs hW => ?_)
      have hE : pAddProc P = (p_procs P, ps_procs (ps_nodes (ps_kindOf (ps_procOf (ps_exitOf (ps_nodes (ps_kindOf (ps_procOf (ps_entryOf P (up (p_entryOf P) (p_procs P) (p_nodes P))) (up ((p_procOf P)) ((p_nodes P)) (p_procs P))) (up ((p_kindOf P)) ((p_nodes P)) 0)) ((p_nodes P) + 1)) (up (p_exitOf P) (p_procs P) ((p_nodes P) + 1))) (up ((up ((p_procOf P)) ((p_nodes P)) (p_procs P))) (((p_nodes P) + 1)) (p_procs P))) (up ((up ((p_kindOf P)) ((p_nodes P)) 0)) (((p_nodes P) + 1)) 1)) (((p_nodes P) + 1) + 1)) ((p_procs P) + 1)) := by unfold pAddProc; (repeat' split) <;> first | rfl | (exfalso; omega)
      exact MW_iret C hAe hrt hlk hW dX0_addProc_79 (iw (by rw [hE])) (by rw [hE])
    · skip
      refine r_bipush (z := -4) C dX0_addProc_19 rfl ?_
      have hE : pAddProc P = (-4, P) := by unfold pAddProc; (repeat' split) <;> first | rfl | (exfalso; omega)
      exact MW_iret C hAe hrt hlk hW dX0_addProc_21 (iw (by rw [hE])) (by rw [hE])
set_option maxHeartbeats 4000000 in
set_option maxRecDepth 100000 in
theorem c_X0_addNode (l : Launch) (g : GG) (o : Nat) (ad : Nat → Nat) (P : Pg) (n : Int) (hP : pOk P) (hn : rg n) : MW l g yX0_addNode cX0_addNode 2 (some .int) 1 22 [.ref (o), .int (iI (n))] (pW g o ad P) (pW g o ad ((pAddNode P n).2)) (some (.int (iI ((pAddNode P n).1)))) := by
  refine MW_start (by decide) (Nat.le_of_ble_eq_true rfl) ?_
  intro zp ze zs zm zb zt zc A hAe C hrt hlk hW ls hl
  have hA : ∀ q, zs.heap.size ≤ q → A q := fun q h => by rw [hAe]; exact Or.inr h
  have hl : lv_has ls 2 [(0, .ref (o)), (1, .int (iI (n)))] := hl
  obtain ⟨hP_procs, hP_nodes, hP_edges, hP_start, hP_entryOf, hP_exitOf, hP_procOf, hP_kindOf, hP_from, hP_to, hP_callee⟩ := id hP
  refine r_aload_n C dX0_addNode_0 hl 0 rfl ?_
  refine r_iload_n C dX0_addNode_1 hl 1 rfl ?_
  refine r_callR (rest := []) (r := .int (iI (bI (0 ≤ n ∧ n < (p_procs P))))) C hl.1 (c_X0_isProc l g o ad P n (by assumption) (show rg n by omega)) v_X0_79 rfl hW.1 0 rfl rfl rfl (by decide) (by decide) (Nat.le_of_ble_eq_true rfl) dX0_addNode_2 rfl ?_
  refine r_ifb_ne C 11 dX0_addNode_5 (by decide) (fun hc1 => ?_) (fun hc1 => ?_)
  · skip
    refine r_aload_n C dX0_addNode_11 hl 0 rfl ?_
    refine r_get (v := .int (iI (p_nodes P))) C f_X0_15 hW.1 0 rfl rfl dX0_addNode_12 ?_
    refine r_bipush (z := 24) C dX0_addNode_15 rfl ?_
    refine r_icmp_lt C 23 dX0_addNode_17 (by decide) (by omega) (by omega) (fun hc2 => ?_) (fun hc2 => ?_)
    · skip
      refine r_aload_n C dX0_addNode_23 hl 0 rfl ?_
      refine r_iload_n C dX0_addNode_24 hl 1 rfl ?_
      refine r_iconst (z := 2) C dX0_addNode_25 rfl ?_
      refine r_callW (rest := []) (r := some (.int (iI ((p_nodes P))))) (wr := []) (ws2 := pW g o ad (ps_nodes (ps_kindOf (ps_procOf P (up ((p_procOf P)) ((p_nodes P)) n)) (up ((p_kindOf P)) ((p_nodes P)) 2)) ((p_nodes P) + 1))) (st1 := [.int (iI ((p_nodes P)))]) C hl.1 hW hA (c_X0_placeNode l g o ad P n 2 (show 0 ≤ (p_nodes P) ∧ (p_nodes P) < 24 by omega)) v_X0_75 rfl [0, 1, 2, 3, 4, 5, 6, 7, 8] [] [0, 1, 2, 3, 4, 5, 6, 7, 8] rfl rfl (by decide) (by decide) rfl rfl 0 rfl rfl rfl (by decide) (by decide) (Nat.le_of_ble_eq_true rfl) dX0_addNode_26 rfl rfl (fun H locs hW => ?_)
      have hE : pAddNode P n = ((p_nodes P), ps_nodes (ps_kindOf (ps_procOf P (up ((p_procOf P)) ((p_nodes P)) n)) (up ((p_kindOf P)) ((p_nodes P)) 2)) ((p_nodes P) + 1)) := by unfold pAddNode; (repeat' split) <;> first | rfl | (exfalso; omega)
      exact MW_iret C hAe hrt hlk hW dX0_addNode_29 (iw (by rw [hE])) (by rw [hE])
    · skip
      refine r_bipush (z := -4) C dX0_addNode_20 rfl ?_
      have hE : pAddNode P n = (-4, P) := by unfold pAddNode; (repeat' split) <;> first | rfl | (exfalso; omega)
      exact MW_iret C hAe hrt hlk hW dX0_addNode_22 (iw (by rw [hE])) (by rw [hE])
  · skip
    refine r_bipush (z := -2) C dX0_addNode_8 rfl ?_
    have hE : pAddNode P n = (-2, P) := by unfold pAddNode; (repeat' split) <;> first | rfl | (exfalso; omega)
    exact MW_iret C hAe hrt hlk hW dX0_addNode_10 (iw (by rw [hE])) (by rw [hE])
set_option maxHeartbeats 4000000 in
set_option maxRecDepth 100000 in
theorem c_X0_addEdge (l : Launch) (g : GG) (o : Nat) (ad : Nat → Nat) (P : Pg) (n q k : Int) (hE0 : 0 ≤ p_edges P ∧ p_edges P ≤ 32) : MW l g yX0_addEdge cX0_addEdge 5 (some .int) 0 0 [.ref (o), .int (iI (n)), .int (iI (q)), .int (iI (k))] (pW g o ad P) (pW g o ad ((pAddEdge P n q k).2)) (some (.int (iI ((pAddEdge P n q k).1)))) := by
  refine MW_start (by decide) (Nat.le_of_ble_eq_true rfl) ?_
  intro zp ze zs zm zb zt zc A hAe C hrt hlk hW ls hl
  have hA : ∀ q, zs.heap.size ≤ q → A q := fun q h => by rw [hAe]; exact Or.inr h
  have hl : lv_has ls 5 [(0, .ref (o)), (1, .int (iI (n))), (2, .int (iI (q))), (3, .int (iI (k)))] := hl
  refine r_aload_n C dX0_addEdge_0 hl 0 rfl ?_
  refine r_get (v := .int (iI (p_edges P))) C f_X0_18 hW.1 0 rfl rfl dX0_addEdge_1 ?_
  refine r_bipush (z := 32) C dX0_addEdge_4 rfl ?_
  refine r_icmp_lt C 12 dX0_addEdge_6 (by decide) (by omega) (by omega) (fun hc1 => ?_) (fun hc1 => ?_)
  · skip
    refine r_aload_n C dX0_addEdge_12 hl 0 rfl ?_
    refine r_get (v := .ref (ad 4)) C f_X0_37 hW.1 0 rfl rfl dX0_addEdge_13 ?_
    refine r_aload_n C dX0_addEdge_16 hl 0 rfl ?_
    refine r_get (v := .int (iI (p_edges P))) C f_X0_18 hW.1 0 rfl rfl dX0_addEdge_17 ?_
    refine r_iload_n C dX0_addEdge_20 hl 1 rfl ?_
    refine r_iast (f := p_from P) C hW (pW g o ad (ps_from P (up (p_from P) (p_edges P) n))) 5 rfl (Nat.le_of_ble_eq_true rfl) (by omega) rfl dX0_addEdge_21 (fun H locs hW => ?_)
    refine r_aload_n C dX0_addEdge_22 hl 0 rfl ?_
    refine r_get (v := .ref (ad 5)) C f_X0_40 hW.1 0 rfl rfl dX0_addEdge_23 ?_
    refine r_aload_n C dX0_addEdge_26 hl 0 rfl ?_
    refine r_get (v := .int (iI (p_edges P))) C f_X0_18 hW.1 0 rfl rfl dX0_addEdge_27 ?_
    refine r_iload_n C dX0_addEdge_30 hl 3 rfl ?_
    refine r_iast (f := p_to P) C hW (pW g o ad (ps_to (ps_from P (up (p_from P) (p_edges P) n)) (up (p_to P) (p_edges P) k))) 6 rfl (Nat.le_of_ble_eq_true rfl) (by omega) rfl dX0_addEdge_31 (fun H locs hW => ?_)
    refine r_aload_n C dX0_addEdge_32 hl 0 rfl ?_
    refine r_get (v := .ref (ad 6)) C f_X0_43 hW.1 0 rfl rfl dX0_addEdge_33 ?_
    refine r_aload_n C dX0_addEdge_36 hl 0 rfl ?_
    refine r_get (v := .int (iI (p_edges P))) C f_X0_18 hW.1 0 rfl rfl dX0_addEdge_37 ?_
    refine r_iload_n C dX0_addEdge_40 hl 2 rfl ?_
    refine r_iast (f := p_callee P) C hW (pW g o ad (ps_callee (ps_to (ps_from P (up (p_from P) (p_edges P) n)) (up (p_to P) (p_edges P) k)) (up (p_callee P) (p_edges P) q))) 7 rfl (Nat.le_of_ble_eq_true rfl) (by omega) rfl dX0_addEdge_41 (fun H locs hW => ?_)
    refine r_iconst (z := 0) C dX0_addEdge_42 rfl ?_
    refine r_istore C [(4, .int (iI (0))), (0, .ref (o)), (1, .int (iI (n))), (2, .int (iI (q))), (3, .int (iI (k)))] dX0_addEdge_43 hl (by decide) rfl (fun ls hl => ?_)
    have hloop45 : ∀ (k45 : Nat) (w : Int) (f : Int → Int64) (hkk : w + k45 = 3) (hw : 0 ≤ w) (hq : pPlainF P (p_flow P) = it (fun w f => up f (p_edges P * 3 + w) plL) k45 w f) (H : Heap) (locs : List Loc) (ls : Array Slot), HW g A zs.heap (pW g o ad (ps_flow (ps_callee (ps_to (ps_from P (up (p_from P) (p_edges P) n)) (up (p_to P) (p_edges P) k)) (up (p_callee P) (p_edges P) q)) f)) H locs → lv_has ls 5 [(0, .ref (o)), (1, .int (iI (n))), (2, .int (iI (q))), (3, .int (iI (k))), (4, .int (iI (w)))] → W zp l ze (rmm 0 0) zs zm (List.toArray [.ref (o), .int (iI (n)), .int (iI (q)), .int (iI (k))]) zb zt zc H locs 0 0 (MQ zb (QW g (pW g o ad P) (pW g o ad ((pAddEdge P n q k).2)) zs.heap.size (some (.int (iI ((pAddEdge P n q k).1))))) (List.toArray [.ref (o), .int (iI (n)), .int (iI (q)), .int (iI (k))]) zs 0 0 A) (F0 zm 45 ls []) := by
      intro k45
      induction k45 with
      | zero =>
        intro w f hkk hw hq H locs ls hW hl
        refine r_iload C dX0_addEdge_45 hl 4 rfl ?_
        refine r_iconst (z := 3) C dX0_addEdge_47 rfl ?_
        refine r_icmp_ge C 74 dX0_addEdge_48 (by decide) (by omega) (by omega) (fun hc2 => ?_) (fun hc2 => ?_)
        · skip
          refine r_aload_n C dX0_addEdge_74 hl 0 rfl ?_
          refine r_dup C rfl dX0_addEdge_75 ?_
          refine r_get (v := .int (iI (p_edges P))) C f_X0_18 hW.1 0 rfl rfl dX0_addEdge_76 ?_
          refine r_dup_x1 C rfl rfl dX0_addEdge_79 ?_
          refine r_iconst (z := 1) C dX0_addEdge_80 rfl ?_
          refine r_iadd C dX0_addEdge_81 ?_
          refine r_put C f_X0_18 fp_0_2 hW (pW g o ad (ps_edges (ps_flow (ps_callee (ps_to (ps_from P (up (p_from P) (p_edges P) n)) (up (p_to P) (p_edges P) k)) (up (p_callee P) (p_edges P) q)) f) ((p_edges P) + 1))) 0 rfl rfl rfl (Nat.le_of_ble_eq_true rfl) rfl dX0_addEdge_82 (fun H locs hW => ?_)
          have hE : pAddEdge P n q k = (p_edges P, ps_edges (ps_flow (ps_callee (ps_to (ps_from P (up (p_from P) (p_edges P) n)) (up (p_to P) (p_edges P) k)) (up (p_callee P) (p_edges P) q)) f) ((p_edges P) + 1)) := by unfold pAddEdge; rw [hq]; split <;> first | rfl | (exfalso; omega)
          exact MW_iret C hAe hrt hlk hW dX0_addEdge_85 (iw (by rw [hE])) (by rw [hE])
        · exact absurd hc2 (by omega)
      | succ k45 ih45 =>
        intro w f hkk hw hq H locs ls hW hl
        refine r_iload C dX0_addEdge_45 hl 4 rfl ?_
        refine r_iconst (z := 3) C dX0_addEdge_47 rfl ?_
        refine r_icmp_ge C 74 dX0_addEdge_48 (by decide) (by omega) (by omega) (fun hc3 => ?_) (fun hc3 => ?_)
        · exact absurd hc3 (by omega)
        · skip
          refine r_aload_n C dX0_addEdge_51 hl 0 rfl ?_
          refine r_get (v := .ref (ad 7)) C f_X0_46 hW.1 0 rfl rfl dX0_addEdge_52 ?_
          refine r_aload_n C dX0_addEdge_55 hl 0 rfl ?_
          refine r_get (v := .int (iI (p_edges P))) C f_X0_18 hW.1 0 rfl rfl dX0_addEdge_56 ?_
          refine r_iconst (z := 3) C dX0_addEdge_59 rfl ?_
          refine r_imul C dX0_addEdge_60 ?_
          refine r_iload C dX0_addEdge_61 hl 4 rfl ?_
          refine r_iadd C dX0_addEdge_63 ?_
          refine r_ldc2 (v := plL) C k_275 dX0_addEdge_64 ?_
          refine r_last (f := f) C hW (pW g o ad (ps_flow (ps_flow (ps_callee (ps_to (ps_from P (up (p_from P) (p_edges P) n)) (up (p_to P) (p_edges P) k)) (up (p_callee P) (p_edges P) q)) f) (up f (((p_edges P) * 3) + w) plL))) 8 rfl (Nat.le_of_ble_eq_true rfl) (by omega) rfl dX0_addEdge_67 (fun H locs hW => ?_)
          refine r_iinc (v := w + 1) C [(4, .int (iI (w + 1))), (0, .ref (o)), (1, .int (iI (n))), (2, .int (iI (q))), (3, .int (iI (k)))] dX0_addEdge_68 hl 4 rfl (by decide) (by omega) rfl (fun ls hl => ?_)
          refine r_goto C 45 dX0_addEdge_71 (by decide) ?_
          exact ih45 _ _ (by omega) (by omega) (by rw [hq, it_s]) _ _ ls hW (lv_sub hl [1, 2, 3, 4, 0] rfl)
    exact hloop45 3 0 _ (by omega) (by omega) rfl _ _ ls hW (lv_sub hl [1, 2, 3, 4, 0] rfl)
  · skip
    refine r_bipush (z := -4) C dX0_addEdge_9 rfl ?_
    have hE : pAddEdge P n q k = (-4, P) := by unfold pAddEdge; (repeat' split) <;> first | rfl | (exfalso; omega)
    exact MW_iret C hAe hrt hlk hW dX0_addEdge_11 (iw (by rw [hE])) (by rw [hE])
set_option maxHeartbeats 4000000 in
set_option maxRecDepth 100000 in
theorem c_X0_addPlain (l : Launch) (g : GG) (o : Nat) (ad : Nat → Nat) (P : Pg) (n k : Int) (hP : pOk P) (hn : rg n) (hm : rg k) : MW l g yX0_addPlain cX0_addPlain 3 (some .int) 2 43 [.ref (o), .int (iI (n)), .int (iI (k))] (pW g o ad P) (pW g o ad ((pAddPlain P n k).2)) (some (.int (iI ((pAddPlain P n k).1)))) := by
  refine MW_start (by decide) (Nat.le_of_ble_eq_true rfl) ?_
  intro zp ze zs zm zb zt zc A hAe C hrt hlk hW ls hl
  have hA : ∀ q, zs.heap.size ≤ q → A q := fun q h => by rw [hAe]; exact Or.inr h
  have hl : lv_has ls 3 [(0, .ref (o)), (1, .int (iI (n))), (2, .int (iI (k)))] := hl
  obtain ⟨hP_procs, hP_nodes, hP_edges, hP_start, hP_entryOf, hP_exitOf, hP_procOf, hP_kindOf, hP_from, hP_to, hP_callee⟩ := id hP
  refine r_aload_n C dX0_addPlain_0 hl 0 rfl ?_
  refine r_iload_n C dX0_addPlain_1 hl 1 rfl ?_
  refine r_iload_n C dX0_addPlain_2 hl 2 rfl ?_
  refine r_callR (rest := []) (r := .int (iI (bI ((0 ≤ n ∧ n < (p_nodes P)) ∧ (0 ≤ k ∧ k < (p_nodes P)) ∧ (p_procOf P) n = (p_procOf P) k ∧ (p_kindOf P) n ≠ 1 ∧ (p_kindOf P) k ≠ 0)))) C hl.1 (c_X0_joins l g o ad P n k (by assumption) (show rg n by omega) (show rg k by omega)) v_X0_82 rfl hW.1 0 rfl rfl rfl (by decide) (by decide) (Nat.le_of_ble_eq_true rfl) dX0_addPlain_3 rfl ?_
  refine r_ifb_eq C 19 dX0_addPlain_6 (by decide) (fun hc1 => ?_) (fun hc1 => ?_)
  · skip
    refine r_bipush (z := -2) C dX0_addPlain_19 rfl ?_
    have hE : pAddPlain P n k = (-2, P) := by first | exact if_pos (by assumption) | exact if_neg (by assumption)
    exact MW_iret C hAe hrt hlk hW dX0_addPlain_21 (iw (by rw [hE])) (by rw [hE])
  · skip
    refine r_aload_n C dX0_addPlain_9 hl 0 rfl ?_
    refine r_iload_n C dX0_addPlain_10 hl 1 rfl ?_
    refine r_iconst (z := -1) C dX0_addPlain_11 rfl ?_
    refine r_iload_n C dX0_addPlain_12 hl 2 rfl ?_
    refine r_callW (rest := []) (r := some (.int (iI ((pAddEdge P n (-1) k).1)))) (wr := []) (ws2 := pW g o ad ((pAddEdge P n (-1) k).2)) (st1 := [.int (iI ((pAddEdge P n (-1) k).1))]) C hl.1 hW hA (c_X0_addEdge l g o ad P n (-1) k (show 0 ≤ (p_edges P) ∧ (p_edges P) ≤ 32 by omega)) v_X0_85 rfl [0, 1, 2, 3, 4, 5, 6, 7, 8] [] [0, 1, 2, 3, 4, 5, 6, 7, 8] rfl rfl (by decide) (by decide) rfl rfl 0 rfl rfl rfl (by decide) (by decide) (Nat.le_of_ble_eq_true rfl) dX0_addPlain_13 rfl rfl (fun H locs hW => ?_)
    refine r_goto C 21 dX0_addPlain_16 (by decide) ?_
    have hE : pAddPlain P n k = ((pAddEdge P n (-1) k).1, (pAddEdge P n (-1) k).2) := by first | exact if_pos (by assumption) | exact if_neg (by assumption)
    exact MW_iret C hAe hrt hlk hW dX0_addPlain_21 (iw (by rw [hE])) (by rw [hE])
set_option maxHeartbeats 4000000 in
set_option maxRecDepth 100000 in
theorem c_X0_addCall (l : Launch) (g : GG) (o : Nat) (ad : Nat → Nat) (P : Pg) (n q k : Int) (hP : pOk P) (hn : rg n) (hq : rg q) (hm : rg k) : MW l g yX0_addCall cX0_addCall 4 (some .int) 2 43 [.ref (o), .int (iI (n)), .int (iI (q)), .int (iI (k))] (pW g o ad P) (pW g o ad ((pAddCall P n q k).2)) (some (.int (iI ((pAddCall P n q k).1)))) := by
  refine MW_start (by decide) (Nat.le_of_ble_eq_true rfl) ?_
  intro zp ze zs zm zb zt zc A hAe C hrt hlk hW ls hl
  have hA : ∀ q, zs.heap.size ≤ q → A q := fun q h => by rw [hAe]; exact Or.inr h
  have hl : lv_has ls 4 [(0, .ref (o)), (1, .int (iI (n))), (2, .int (iI (q))), (3, .int (iI (k)))] := hl
  obtain ⟨hP_procs, hP_nodes, hP_edges, hP_start, hP_entryOf, hP_exitOf, hP_procOf, hP_kindOf, hP_from, hP_to, hP_callee⟩ := id hP
  refine r_aload_n C dX0_addCall_0 hl 0 rfl ?_
  refine r_iload_n C dX0_addCall_1 hl 2 rfl ?_
  refine r_callR (rest := []) (r := .int (iI (bI (0 ≤ q ∧ q < (p_procs P))))) C hl.1 (c_X0_isProc l g o ad P q (by assumption) (show rg q by omega)) v_X0_79 rfl hW.1 0 rfl rfl rfl (by decide) (by decide) (Nat.le_of_ble_eq_true rfl) dX0_addCall_2 rfl ?_
  refine r_ifb_eq C 27 dX0_addCall_5 (by decide) (fun hc1 => ?_) (fun hc1 => ?_)
  · skip
    refine r_bipush (z := -2) C dX0_addCall_27 rfl ?_
    have hE : pAddCall P n q k = (-2, P) := by first | exact if_pos ⟨by assumption, by assumption⟩ | exact if_neg (fun h => by first | exact absurd h.1 (by assumption) | exact absurd h.2 (by assumption))
    exact MW_iret C hAe hrt hlk hW dX0_addCall_29 (iw (by rw [hE])) (by rw [hE])
  · skip
    refine r_aload_n C dX0_addCall_8 hl 0 rfl ?_
    refine r_iload_n C dX0_addCall_9 hl 1 rfl ?_
    refine r_iload_n C dX0_addCall_10 hl 3 rfl ?_
    refine r_callR (rest := []) (r := .int (iI (bI ((0 ≤ n ∧ n < (p_nodes P)) ∧ (0 ≤ k ∧ k < (p_nodes P)) ∧ (p_procOf P) n = (p_procOf P) k ∧ (p_kindOf P) n ≠ 1 ∧ (p_kindOf P) k ≠ 0)))) C hl.1 (c_X0_joins l g o ad P n k (by assumption) (show rg n by omega) (show rg k by omega)) v_X0_82 rfl hW.1 0 rfl rfl rfl (by decide) (by decide) (Nat.le_of_ble_eq_true rfl) dX0_addCall_11 rfl ?_
    refine r_ifb_eq C 27 dX0_addCall_14 (by decide) (fun hc2 => ?_) (fun hc2 => ?_)
    · skip
      refine r_bipush (z := -2) C dX0_addCall_27 rfl ?_
      have hE : pAddCall P n q k = (-2, P) := by first | exact if_pos ⟨by assumption, by assumption⟩ | exact if_neg (fun h => by first | exact absurd h.1 (by assumption) | exact absurd h.2 (by assumption))
      exact MW_iret C hAe hrt hlk hW dX0_addCall_29 (iw (by rw [hE])) (by rw [hE])
    · skip
      refine r_aload_n C dX0_addCall_17 hl 0 rfl ?_
      refine r_iload_n C dX0_addCall_18 hl 1 rfl ?_
      refine r_iload_n C dX0_addCall_19 hl 2 rfl ?_
      refine r_iload_n C dX0_addCall_20 hl 3 rfl ?_
      refine r_callW (rest := []) (r := some (.int (iI ((pAddEdge P n q k).1)))) (wr := []) (ws2 := pW g o ad ((pAddEdge P n q k).2)) (st1 := [.int (iI ((pAddEdge P n q k).1))]) C hl.1 hW hA (c_X0_addEdge l g o ad P n q k (show 0 ≤ (p_edges P) ∧ (p_edges P) ≤ 32 by omega)) v_X0_85 rfl [0, 1, 2, 3, 4, 5, 6, 7, 8] [] [0, 1, 2, 3, 4, 5, 6, 7, 8] rfl rfl (by decide) (by decide) rfl rfl 0 rfl rfl rfl (by decide) (by decide) (Nat.le_of_ble_eq_true rfl) dX0_addCall_21 rfl rfl (fun H locs hW => ?_)
      refine r_goto C 29 dX0_addCall_24 (by decide) ?_
      have hE : pAddCall P n q k = ((pAddEdge P n q k).1, (pAddEdge P n q k).2) := by first | exact if_pos ⟨by assumption, by assumption⟩ | exact if_neg (fun h => by first | exact absurd h.1 (by assumption) | exact absurd h.2 (by assumption))
      exact MW_iret C hAe hrt hlk hW dX0_addCall_29 (iw (by rw [hE])) (by rw [hE])
set_option maxHeartbeats 4000000 in
set_option maxRecDepth 100000 in
theorem c_X0_setFlow (l : Launch) (g : GG) (o : Nat) (ad : Nat → Nat) (P : Pg) (e w a v : Int) (hP : pOk P) (he : rg e) (hw : rg w) (ha : rg a) (hv : rg v) : MW l g yX0_setFlow cX0_setFlow 9 (some .int) 2 43 [.ref (o), .int (iI (e)), .int (iI (w)), .int (iI (a)), .int (iI (v))] (pW g o ad P) (pW g o ad ((pSetFlow P e w a v).2)) (some (.int (iI ((pSetFlow P e w a v).1)))) := by
  refine MW_start (by decide) (Nat.le_of_ble_eq_true rfl) ?_
  intro zp ze zs zm zb zt zc A hAe C hrt hlk hW ls hl
  have hA : ∀ q, zs.heap.size ≤ q → A q := fun q h => by rw [hAe]; exact Or.inr h
  have hl : lv_has ls 9 [(0, .ref (o)), (1, .int (iI (e))), (2, .int (iI (w))), (3, .int (iI (a))), (4, .int (iI (v)))] := hl
  obtain ⟨hP_procs, hP_nodes, hP_edges, hP_start, hP_entryOf, hP_exitOf, hP_procOf, hP_kindOf, hP_from, hP_to, hP_callee⟩ := id hP
  refine r_aload_n C dX0_setFlow_0 hl 0 rfl ?_
  refine r_iload_n C dX0_setFlow_1 hl 1 rfl ?_
  refine r_iload_n C dX0_setFlow_2 hl 2 rfl ?_
  refine r_callR (rest := []) (r := .int (iI (bI ((0 ≤ e ∧ e < (p_edges P)) ∧ 0 ≤ w ∧ w < (if (p_callee P) e = -1 then 1 else 3))))) C hl.1 (c_X0_hasFlow l g o ad P e w (by assumption) (show rg e by omega) (show rg w by omega)) v_X0_90 rfl hW.1 0 rfl rfl rfl (by decide) (by decide) (Nat.le_of_ble_eq_true rfl) dX0_setFlow_3 rfl ?_
  refine r_ifb_eq C 42 dX0_setFlow_6 (by decide) (fun hc1 => ?_) (fun hc1 => ?_)
  · skip
    refine r_bipush (z := -2) C dX0_setFlow_42 rfl ?_
    have hE : pSetFlow P e w a v = (-2, P) := if_neg (fun h => hc1 h.1)
    exact MW_iret C hAe hrt hlk hW dX0_setFlow_44 (iw (by rw [hE])) (by rw [hE])
  · skip
    refine r_iload_n C dX0_setFlow_9 hl 3 rfl ?_
    refine r_callRN (rest := []) (r := .int (iI (bI (0 ≤ a ∧ a < 8)))) C hl.1 (c_X4_isFact l g  a (show rg a by omega)) v_X0_93 rfl (fun k q h => by simp at h) (by decide) (by decide) (Nat.le_of_ble_eq_true rfl) dX0_setFlow_10 rfl ?_
    refine r_ifb_eq C 42 dX0_setFlow_13 (by decide) (fun hc2 => ?_) (fun hc2 => ?_)
    · skip
      refine r_bipush (z := -2) C dX0_setFlow_42 rfl ?_
      have hE : pSetFlow P e w a v = (-2, P) := if_neg (fun h => hc2 h.2.1)
      exact MW_iret C hAe hrt hlk hW dX0_setFlow_44 (iw (by rw [hE])) (by rw [hE])
    · skip
      refine r_iload C dX0_setFlow_16 hl 4 rfl ?_
      refine r_callRN (rest := []) (r := .int (iI (bI (0 ≤ v ∧ v ≤ 255)))) C hl.1 (c_X4_isFacts l g  v (show rg v by omega)) v_X0_96 rfl (fun k q h => by simp at h) (by decide) (by decide) (Nat.le_of_ble_eq_true rfl) dX0_setFlow_18 rfl ?_
      refine r_ifb_eq C 42 dX0_setFlow_21 (by decide) (fun hc3 => ?_) (fun hc3 => ?_)
      · skip
        refine r_bipush (z := -2) C dX0_setFlow_42 rfl ?_
        have hE : pSetFlow P e w a v = (-2, P) := if_neg (fun h => hc3 h.2.2.1)
        exact MW_iret C hAe hrt hlk hW dX0_setFlow_44 (iw (by rw [hE])) (by rw [hE])
      · skip
        refine r_iload C dX0_setFlow_24 hl 4 rfl ?_
        refine r_iconst (z := 0) C dX0_setFlow_26 rfl ?_
        refine r_callRN (rest := []) (r := .int (iI (bI (tb v 0 = true)))) C hl.1 (c_X4_has l g  v 0 (show 0 ≤ v ∧ v < 2147483648 by omega) (show 0 ≤ 0 ∧ 0 < 31 by omega)) v_X0_67 rfl (fun k q h => by simp at h) (by decide) (by decide) (Nat.le_of_ble_eq_true rfl) dX0_setFlow_27 rfl ?_
        refine r_iload_n C dX0_setFlow_30 hl 3 rfl ?_
        refine r_if_ne C 38 dX0_setFlow_31 (by decide) (by omega) (fun hc4 => ?_) (fun hc4 => ?_)
        · skip
          refine r_iconst (z := 0) C dX0_setFlow_38 rfl ?_
          have hbb := bI_rg (tb v 0 = true)
          refine r_icmp_eq C 45 dX0_setFlow_39 (by decide) (by omega) (by omega) (fun hc5 => ?_) (fun hc5 => ?_)
          · skip
            have hwr : w < 3 := by
              obtain ⟨he9, hw8, hw9⟩ := hc1
              split at hw9 <;> omega
            refine r_aload_n C dX0_setFlow_45 hl 0 rfl ?_
            refine r_iload_n C dX0_setFlow_46 hl 1 rfl ?_
            refine r_iload_n C dX0_setFlow_47 hl 2 rfl ?_
            refine r_iload_n C dX0_setFlow_48 hl 3 rfl ?_
            refine r_callR (rest := []) (r := .int (iI (pReach P e w a))) C hl.1 (c_X0_reach l g o ad P e w a (show 0 ≤ e ∧ e < 32 by omega) (show 0 ≤ w ∧ w < 3 by omega) (show 0 ≤ a ∧ a < 8 by omega)) v_X0_71 rfl hW.1 0 rfl rfl rfl (by decide) (by decide) (Nat.le_of_ble_eq_true rfl) dX0_setFlow_49 rfl ?_
            have hq6 := pReach_r P e w a
            refine r_istore C [(5, .int (iI (pReach P e w a))), (0, .ref (o)), (1, .int (iI (e))), (2, .int (iI (w))), (3, .int (iI (a))), (4, .int (iI (v)))] dX0_setFlow_52 hl (by decide) rfl (fun ls hl => ?_)
            refine r_iload_n C dX0_setFlow_54 hl 4 rfl ?_
            refine r_bipush (z := 8) C dX0_setFlow_55 rfl ?_
            refine r_imul C dX0_setFlow_57 ?_
            refine r_istore C [(6, .int (iI (a * 8))), (5, .int (iI (pReach P e w a))), (0, .ref (o)), (1, .int (iI (e))), (2, .int (iI (w))), (3, .int (iI (a))), (4, .int (iI (v)))] dX0_setFlow_58 hl (by decide) rfl (fun ls hl => ?_)
            refine r_aload_n C dX0_setFlow_60 hl 2 rfl ?_
            refine r_get (v := .ref (ad 7)) C f_X0_46 hW.1 0 rfl rfl dX0_setFlow_61 ?_
            refine r_iload_n C dX0_setFlow_64 hl 3 rfl ?_
            refine r_iconst (z := 3) C dX0_setFlow_65 rfl ?_
            refine r_imul C dX0_setFlow_66 ?_
            refine r_iload_n C dX0_setFlow_67 hl 4 rfl ?_
            refine r_iadd C dX0_setFlow_68 ?_
            refine r_lald (f := p_flow P) C hW.1 8 rfl (Nat.le_of_ble_eq_true rfl) (by omega) dX0_setFlow_69 ?_
            refine r_ldc2 (v := lI 255) C kc_317 dX0_setFlow_70 ?_
            refine r_iload C dX0_setFlow_73 hl 0 rfl ?_
            refine r_lshl8 C dX0_setFlow_75 ?_
            refine r_ldc2 (v := lI (-1)) C kc_318 dX0_setFlow_76 ?_
            refine r_lxor C dX0_setFlow_79 ?_
            refine r_land C dX0_setFlow_80 ?_
            refine r_lstore C [(7, .long ((p_flow P ((e * 3) + w)) &&& ((sfL 255 a) ^^^ (lI (-1))))), (6, .int (iI (a * 8))), (5, .int (iI (pReach P e w a))), (0, .ref (o)), (1, .int (iI (e))), (2, .int (iI (w))), (3, .int (iI (a))), (4, .int (iI (v)))] dX0_setFlow_81 hl (by decide) rfl (fun ls hl => ?_)
            refine r_aload_n C dX0_setFlow_83 hl 3 rfl ?_
            refine r_get (v := .ref (ad 7)) C f_X0_46 hW.1 0 rfl rfl dX0_setFlow_84 ?_
            refine r_iload_n C dX0_setFlow_87 hl 4 rfl ?_
            refine r_iconst (z := 3) C dX0_setFlow_88 rfl ?_
            refine r_imul C dX0_setFlow_89 ?_
            refine r_iload_n C dX0_setFlow_90 hl 5 rfl ?_
            refine r_iadd C dX0_setFlow_91 ?_
            refine r_lload C dX0_setFlow_92 hl 0 rfl ?_
            refine r_iload C dX0_setFlow_94 hl 7 rfl ?_
            refine r_i2l C (by omega) dX0_setFlow_96 ?_
            refine r_iload C dX0_setFlow_97 hl 1 rfl ?_
            refine r_lshl8 C dX0_setFlow_99 ?_
            refine r_lor C dX0_setFlow_100 ?_
            refine r_last (f := p_flow P) C hW (pW g o ad (ps_flow P (up (p_flow P) ((e * 3) + w) (((p_flow P ((e * 3) + w)) &&& ((sfL 255 a) ^^^ (lI (-1)))) ||| (sfL v a))))) 8 rfl (Nat.le_of_ble_eq_true rfl) (by omega) rfl dX0_setFlow_101 (fun H locs hW => ?_)
            refine r_iload C dX0_setFlow_102 hl 2 rfl ?_
            have hE : pSetFlow P e w a v = (pReach P e w a, ps_flow P (up (p_flow P) ((e * 3) + w) (((p_flow P ((e * 3) + w)) &&& ((sfL 255 a) ^^^ (lI (-1)))) ||| (sfL v a)))) := if_pos ⟨hc1, hc2, hc3, ⟨fun q => by rw [bI_t q] at hc5; omega, fun q => absurd q hc4⟩⟩
            exact MW_iret C hAe hrt hlk hW dX0_setFlow_104 (iw (by rw [hE])) (by rw [hE])
          · skip
            refine r_bipush (z := -2) C dX0_setFlow_42 rfl ?_
            have hE : pSetFlow P e w a v = (-2, P) := if_neg (fun h => hc5 (bI_f (fun q => hc4 (h.2.2.2.mp q))))
            exact MW_iret C hAe hrt hlk hW dX0_setFlow_44 (iw (by rw [hE])) (by rw [hE])
        · skip
          refine r_iconst (z := 1) C dX0_setFlow_34 rfl ?_
          refine r_goto C 39 dX0_setFlow_35 (by decide) ?_
          have hbb := bI_rg (tb v 0 = true)
          refine r_icmp_eq C 45 dX0_setFlow_39 (by decide) (by omega) (by omega) (fun hc7 => ?_) (fun hc7 => ?_)
          · skip
            have hwr : w < 3 := by
              obtain ⟨he9, hw8, hw9⟩ := hc1
              split at hw9 <;> omega
            refine r_aload_n C dX0_setFlow_45 hl 0 rfl ?_
            refine r_iload_n C dX0_setFlow_46 hl 1 rfl ?_
            refine r_iload_n C dX0_setFlow_47 hl 2 rfl ?_
            refine r_iload_n C dX0_setFlow_48 hl 3 rfl ?_
            refine r_callR (rest := []) (r := .int (iI (pReach P e w a))) C hl.1 (c_X0_reach l g o ad P e w a (show 0 ≤ e ∧ e < 32 by omega) (show 0 ≤ w ∧ w < 3 by omega) (show 0 ≤ a ∧ a < 8 by omega)) v_X0_71 rfl hW.1 0 rfl rfl rfl (by decide) (by decide) (Nat.le_of_ble_eq_true rfl) dX0_setFlow_49 rfl ?_
            have hq8 := pReach_r P e w a
            refine r_istore C [(5, .int (iI (pReach P e w a))), (0, .ref (o)), (1, .int (iI (e))), (2, .int (iI (w))), (3, .int (iI (a))), (4, .int (iI (v)))] dX0_setFlow_52 hl (by decide) rfl (fun ls hl => ?_)
            refine r_iload_n C dX0_setFlow_54 hl 4 rfl ?_
            refine r_bipush (z := 8) C dX0_setFlow_55 rfl ?_
            refine r_imul C dX0_setFlow_57 ?_
            refine r_istore C [(6, .int (iI (a * 8))), (5, .int (iI (pReach P e w a))), (0, .ref (o)), (1, .int (iI (e))), (2, .int (iI (w))), (3, .int (iI (a))), (4, .int (iI (v)))] dX0_setFlow_58 hl (by decide) rfl (fun ls hl => ?_)
            refine r_aload_n C dX0_setFlow_60 hl 2 rfl ?_
            refine r_get (v := .ref (ad 7)) C f_X0_46 hW.1 0 rfl rfl dX0_setFlow_61 ?_
            refine r_iload_n C dX0_setFlow_64 hl 3 rfl ?_
            refine r_iconst (z := 3) C dX0_setFlow_65 rfl ?_
            refine r_imul C dX0_setFlow_66 ?_
            refine r_iload_n C dX0_setFlow_67 hl 4 rfl ?_
            refine r_iadd C dX0_setFlow_68 ?_
            refine r_lald (f := p_flow P) C hW.1 8 rfl (Nat.le_of_ble_eq_true rfl) (by omega) dX0_setFlow_69 ?_
            refine r_ldc2 (v := lI 255) C kc_317 dX0_setFlow_70 ?_
            refine r_iload C dX0_setFlow_73 hl 0 rfl ?_
            refine r_lshl8 C dX0_setFlow_75 ?_
            refine r_ldc2 (v := lI (-1)) C kc_318 dX0_setFlow_76 ?_
            refine r_lxor C dX0_setFlow_79 ?_
            refine r_land C dX0_setFlow_80 ?_
            refine r_lstore C [(7, .long ((p_flow P ((e * 3) + w)) &&& ((sfL 255 a) ^^^ (lI (-1))))), (6, .int (iI (a * 8))), (5, .int (iI (pReach P e w a))), (0, .ref (o)), (1, .int (iI (e))), (2, .int (iI (w))), (3, .int (iI (a))), (4, .int (iI (v)))] dX0_setFlow_81 hl (by decide) rfl (fun ls hl => ?_)
            refine r_aload_n C dX0_setFlow_83 hl 3 rfl ?_
            refine r_get (v := .ref (ad 7)) C f_X0_46 hW.1 0 rfl rfl dX0_setFlow_84 ?_
            refine r_iload_n C dX0_setFlow_87 hl 4 rfl ?_
            refine r_iconst (z := 3) C dX0_setFlow_88 rfl ?_
            refine r_imul C dX0_setFlow_89 ?_
            refine r_iload_n C dX0_setFlow_90 hl 5 rfl ?_
            refine r_iadd C dX0_setFlow_91 ?_
            refine r_lload C dX0_setFlow_92 hl 0 rfl ?_
            refine r_iload C dX0_setFlow_94 hl 7 rfl ?_
            refine r_i2l C (by omega) dX0_setFlow_96 ?_
            refine r_iload C dX0_setFlow_97 hl 1 rfl ?_
            refine r_lshl8 C dX0_setFlow_99 ?_
            refine r_lor C dX0_setFlow_100 ?_
            refine r_last (f := p_flow P) C hW (pW g o ad (ps_flow P (up (p_flow P) ((e * 3) + w) (((p_flow P ((e * 3) + w)) &&& ((sfL 255 a) ^^^ (lI (-1)))) ||| (sfL v a))))) 8 rfl (Nat.le_of_ble_eq_true rfl) (by omega) rfl dX0_setFlow_101 (fun H locs hW => ?_)
            refine r_iload C dX0_setFlow_102 hl 2 rfl ?_
            have hE : pSetFlow P e w a v = (pReach P e w a, ps_flow P (up (p_flow P) ((e * 3) + w) (((p_flow P ((e * 3) + w)) &&& ((sfL 255 a) ^^^ (lI (-1)))) ||| (sfL v a)))) := if_pos ⟨hc1, hc2, hc3, ⟨fun _ => hc4, fun _ => Decidable.byContradiction (fun q => by rw [bI_f q] at hc7; omega)⟩⟩
            exact MW_iret C hAe hrt hlk hW dX0_setFlow_104 (iw (by rw [hE])) (by rw [hE])
          · skip
            refine r_bipush (z := -2) C dX0_setFlow_42 rfl ?_
            have hE : pSetFlow P e w a v = (-2, P) := if_neg (fun h => hc7 (bI_t (h.2.2.2.mpr hc4)))
            exact MW_iret C hAe hrt hlk hW dX0_setFlow_44 (iw (by rw [hE])) (by rw [hE])
set_option maxHeartbeats 4000000 in
set_option maxRecDepth 100000 in
theorem c_X0_setStart (l : Launch) (g : GG) (o : Nat) (ad : Nat → Nat) (P : Pg) (v : Int) (hP : pOk P) (hv : rg v) : MW l g yX0_setStart cX0_setStart 3 (some .int) 1 21 [.ref (o), .int (iI (v))] (pW g o ad P) (pW g o ad ((pSetStart P v).2)) (some (.int (iI ((pSetStart P v).1)))) := by
  refine MW_start (by decide) (Nat.le_of_ble_eq_true rfl) ?_
  intro zp ze zs zm zb zt zc A hAe C hrt hlk hW ls hl
  have hA : ∀ q, zs.heap.size ≤ q → A q := fun q h => by rw [hAe]; exact Or.inr h
  have hl : lv_has ls 3 [(0, .ref (o)), (1, .int (iI (v)))] := hl
  obtain ⟨hP_procs, hP_nodes, hP_edges, hP_start, hP_entryOf, hP_exitOf, hP_procOf, hP_kindOf, hP_from, hP_to, hP_callee⟩ := id hP
  refine r_iload_n C dX0_setStart_0 hl 1 rfl ?_
  refine r_callRN (rest := []) (r := .int (iI (bI (0 ≤ v ∧ v ≤ 255)))) C hl.1 (c_X4_isFacts l g  v (show rg v by omega)) v_X0_96 rfl (fun k q h => by simp at h) (by decide) (by decide) (Nat.le_of_ble_eq_true rfl) dX0_setStart_1 rfl ?_
  refine r_ifb_eq C 15 dX0_setStart_4 (by decide) (fun hc1 => ?_) (fun hc1 => ?_)
  · skip
    refine r_bipush (z := -2) C dX0_setStart_15 rfl ?_
    have hE : pSetStart P v = (-2, P) := by first | exact if_pos ⟨by assumption, by assumption⟩ | exact if_neg (fun h => by first | exact absurd h.1 (by assumption) | exact absurd h.2 (by assumption))
    exact MW_iret C hAe hrt hlk hW dX0_setStart_17 (iw (by rw [hE])) (by rw [hE])
  · skip
    refine r_iload_n C dX0_setStart_7 hl 1 rfl ?_
    refine r_iconst (z := 0) C dX0_setStart_8 rfl ?_
    refine r_callRN (rest := []) (r := .int (iI (bI (tb v 0 = true)))) C hl.1 (c_X4_has l g  v 0 (show 0 ≤ v ∧ v < 2147483648 by omega) (show 0 ≤ 0 ∧ 0 < 31 by omega)) v_X0_67 rfl (fun k q h => by simp at h) (by decide) (by decide) (Nat.le_of_ble_eq_true rfl) dX0_setStart_9 rfl ?_
    refine r_ifb_ne C 18 dX0_setStart_12 (by decide) (fun hc2 => ?_) (fun hc2 => ?_)
    · skip
      refine r_aload_n C dX0_setStart_18 hl 0 rfl ?_
      refine r_get (v := .int (iI (p_start P))) C f_X0_21 hW.1 0 rfl rfl dX0_setStart_19 ?_
      refine r_istore_n C [(2, .int (iI (p_start P))), (0, .ref (o)), (1, .int (iI (v)))] dX0_setStart_22 hl (by decide) rfl (fun ls hl => ?_)
      refine r_aload_n C dX0_setStart_23 hl 1 rfl ?_
      refine r_iload_n C dX0_setStart_24 hl 2 rfl ?_
      refine r_put C f_X0_21 fp_0_3 hW (pW g o ad (ps_start P v)) 0 rfl rfl rfl (Nat.le_of_ble_eq_true rfl) rfl dX0_setStart_25 (fun H locs hW => ?_)
      refine r_iload_n C dX0_setStart_28 hl 0 rfl ?_
      have hE : pSetStart P v = (p_start P, ps_start P v) := by first | exact if_pos ⟨by assumption, by assumption⟩ | exact if_neg (fun h => by first | exact absurd h.1 (by assumption) | exact absurd h.2 (by assumption))
      exact MW_iret C hAe hrt hlk hW dX0_setStart_29 (iw (by rw [hE])) (by rw [hE])
    · skip
      refine r_bipush (z := -2) C dX0_setStart_15 rfl ?_
      have hE : pSetStart P v = (-2, P) := by first | exact if_pos ⟨by assumption, by assumption⟩ | exact if_neg (fun h => by first | exact absurd h.1 (by assumption) | exact absurd h.2 (by assumption))
      exact MW_iret C hAe hrt hlk hW dX0_setStart_17 (iw (by rw [hE])) (by rw [hE])
set_option maxHeartbeats 4000000 in
set_option maxRecDepth 100000 in
theorem c_X0_cutEdge (l : Launch) (g : GG) (o : Nat) (ad : Nat → Nat) (P : Pg) (e : Int) (hP : pOk P) (he : rg e) : MW l g yX0_cutEdge cX0_cutEdge 4 (some .int) 1 21 [.ref (o), .int (iI (e))] (pW g o ad P) (pW g o ad ((pCut P e).2)) (some (.int (iI ((pCut P e).1)))) := by
  refine MW_start (by decide) (Nat.le_of_ble_eq_true rfl) ?_
  intro zp ze zs zm zb zt zc A hAe C hrt hlk hW ls hl
  have hA : ∀ q, zs.heap.size ≤ q → A q := fun q h => by rw [hAe]; exact Or.inr h
  have hl : lv_has ls 4 [(0, .ref (o)), (1, .int (iI (e)))] := hl
  obtain ⟨hP_procs, hP_nodes, hP_edges, hP_start, hP_entryOf, hP_exitOf, hP_procOf, hP_kindOf, hP_from, hP_to, hP_callee⟩ := id hP
  refine r_aload_n C dX0_cutEdge_0 hl 0 rfl ?_
  refine r_iload_n C dX0_cutEdge_1 hl 1 rfl ?_
  refine r_callR (rest := []) (r := .int (iI (bI (0 ≤ e ∧ e < (p_edges P))))) C hl.1 (c_X0_isEdge l g o ad P e (by assumption) (show rg e by omega)) v_X0_60 rfl hW.1 0 rfl rfl rfl (by decide) (by decide) (Nat.le_of_ble_eq_true rfl) dX0_cutEdge_2 rfl ?_
  refine r_ifb_ne C 11 dX0_cutEdge_5 (by decide) (fun hc1 => ?_) (fun hc1 => ?_)
  · skip
    refine r_aload_n C dX0_cutEdge_11 hl 0 rfl ?_
    refine r_dup C rfl dX0_cutEdge_12 ?_
    refine r_get (v := .int (iI (p_edges P))) C f_X0_18 hW.1 0 rfl rfl dX0_cutEdge_13 ?_
    refine r_iconst (z := 1) C dX0_cutEdge_16 rfl ?_
    refine r_isub C dX0_cutEdge_17 ?_
    refine r_put C f_X0_18 fp_0_2 hW (pW g o ad (ps_edges P ((p_edges P) - 1))) 0 rfl rfl rfl (Nat.le_of_ble_eq_true rfl) rfl dX0_cutEdge_18 (fun H locs hW => ?_)
    refine r_iload_n C dX0_cutEdge_21 hl 1 rfl ?_
    refine r_istore_n C [(2, .int (iI (e))), (0, .ref (o)), (1, .int (iI (e)))] dX0_cutEdge_22 hl (by decide) rfl (fun ls hl => ?_)
    have hloop23 : ∀ (k23 : Nat) (i : Int) (X : Pg) (hkk : i + k23 = p_edges P - 1) (hi : e ≤ i) (hX : p_edges X = p_edges P - 1) (hq0 : pCut P e = (p_edges X, it pCut1 k23 i X)) (H : Heap) (locs : List Loc) (ls : Array Slot), HW g A zs.heap (pW g o ad X) H locs → lv_has ls 4 [(0, .ref (o)), (1, .int (iI (e))), (2, .int (iI (i)))] → W zp l ze (rmm 1 21) zs zm (List.toArray [.ref (o), .int (iI (e))]) zb zt zc H locs 0 0 (MQ zb (QW g (pW g o ad P) (pW g o ad ((pCut P e).2)) zs.heap.size (some (.int (iI ((pCut P e).1))))) (List.toArray [.ref (o), .int (iI (e))]) zs 0 0 A) (F0 zm 23 ls []) := by
      intro k23
      induction k23 with
      | zero =>
        intro i X hkk hi hX hq0 H locs ls hW hl
        refine r_iload_n C dX0_cutEdge_23 hl 2 rfl ?_
        refine r_aload_n C dX0_cutEdge_24 hl 0 rfl ?_
        refine r_get (v := .int (iI (p_edges X))) C f_X0_18 hW.1 0 rfl rfl dX0_cutEdge_25 ?_
        refine r_icmp_ge C 114 dX0_cutEdge_28 (by decide) (by omega) (by omega) (fun hc2 => ?_) (fun hc2 => ?_)
        · skip
          refine r_aload_n C dX0_cutEdge_114 hl 0 rfl ?_
          refine r_get (v := .int (iI (p_edges X))) C f_X0_18 hW.1 0 rfl rfl dX0_cutEdge_115 ?_
          have hE : pCut P e = (p_edges X, X) := by rw [hq0]; rfl
          exact MW_iret C hAe hrt hlk hW dX0_cutEdge_118 (iw (by rw [hE])) (by rw [hE])
        · exact absurd hc2 (by omega)
      | succ k23 ih23 =>
        intro i X hkk hi hX hq0 H locs ls hW hl
        refine r_iload_n C dX0_cutEdge_23 hl 2 rfl ?_
        refine r_aload_n C dX0_cutEdge_24 hl 0 rfl ?_
        refine r_get (v := .int (iI (p_edges X))) C f_X0_18 hW.1 0 rfl rfl dX0_cutEdge_25 ?_
        refine r_icmp_ge C 114 dX0_cutEdge_28 (by decide) (by omega) (by omega) (fun hc3 => ?_) (fun hc3 => ?_)
        · exact absurd hc3 (by omega)
        · skip
          refine r_aload_n C dX0_cutEdge_31 hl 0 rfl ?_
          refine r_get (v := .ref (ad 4)) C f_X0_37 hW.1 0 rfl rfl dX0_cutEdge_32 ?_
          refine r_iload_n C dX0_cutEdge_35 hl 2 rfl ?_
          refine r_aload_n C dX0_cutEdge_36 hl 0 rfl ?_
          refine r_get (v := .ref (ad 4)) C f_X0_37 hW.1 0 rfl rfl dX0_cutEdge_37 ?_
          refine r_iload_n C dX0_cutEdge_40 hl 2 rfl ?_
          refine r_iconst (z := 1) C dX0_cutEdge_41 rfl ?_
          refine r_iadd C dX0_cutEdge_42 ?_
          refine r_iald (f := p_from X) C hW.1 5 rfl (Nat.le_of_ble_eq_true rfl) (by omega) dX0_cutEdge_43 ?_
          refine r_iast (f := p_from X) C hW (pW g o ad (ps_from X (up (p_from X) i (p_from X (i + 1))))) 5 rfl (Nat.le_of_ble_eq_true rfl) (by omega) rfl dX0_cutEdge_44 (fun H locs hW => ?_)
          refine r_aload_n C dX0_cutEdge_45 hl 0 rfl ?_
          refine r_get (v := .ref (ad 5)) C f_X0_40 hW.1 0 rfl rfl dX0_cutEdge_46 ?_
          refine r_iload_n C dX0_cutEdge_49 hl 2 rfl ?_
          refine r_aload_n C dX0_cutEdge_50 hl 0 rfl ?_
          refine r_get (v := .ref (ad 5)) C f_X0_40 hW.1 0 rfl rfl dX0_cutEdge_51 ?_
          refine r_iload_n C dX0_cutEdge_54 hl 2 rfl ?_
          refine r_iconst (z := 1) C dX0_cutEdge_55 rfl ?_
          refine r_iadd C dX0_cutEdge_56 ?_
          refine r_iald (f := p_to X) C hW.1 6 rfl (Nat.le_of_ble_eq_true rfl) (by omega) dX0_cutEdge_57 ?_
          refine r_iast (f := p_to X) C hW (pW g o ad (ps_to (ps_from X (up (p_from X) i (p_from X (i + 1)))) (up (p_to X) i (p_to X (i + 1))))) 6 rfl (Nat.le_of_ble_eq_true rfl) (by omega) rfl dX0_cutEdge_58 (fun H locs hW => ?_)
          refine r_aload_n C dX0_cutEdge_59 hl 0 rfl ?_
          refine r_get (v := .ref (ad 6)) C f_X0_43 hW.1 0 rfl rfl dX0_cutEdge_60 ?_
          refine r_iload_n C dX0_cutEdge_63 hl 2 rfl ?_
          refine r_aload_n C dX0_cutEdge_64 hl 0 rfl ?_
          refine r_get (v := .ref (ad 6)) C f_X0_43 hW.1 0 rfl rfl dX0_cutEdge_65 ?_
          refine r_iload_n C dX0_cutEdge_68 hl 2 rfl ?_
          refine r_iconst (z := 1) C dX0_cutEdge_69 rfl ?_
          refine r_iadd C dX0_cutEdge_70 ?_
          refine r_iald (f := p_callee X) C hW.1 7 rfl (Nat.le_of_ble_eq_true rfl) (by omega) dX0_cutEdge_71 ?_
          refine r_iast (f := p_callee X) C hW (pW g o ad (ps_callee (ps_to (ps_from X (up (p_from X) i (p_from X (i + 1)))) (up (p_to X) i (p_to X (i + 1)))) (up (p_callee X) i (p_callee X (i + 1))))) 7 rfl (Nat.le_of_ble_eq_true rfl) (by omega) rfl dX0_cutEdge_72 (fun H locs hW => ?_)
          refine r_iconst (z := 0) C dX0_cutEdge_73 rfl ?_
          refine r_istore_n C [(3, .int (iI (0))), (0, .ref (o)), (1, .int (iI (e))), (2, .int (iI (i)))] dX0_cutEdge_74 hl (by decide) rfl (fun ls hl => ?_)
          have hloop75 : ∀ (k75 : Nat) (w : Int) (f : Int → Int64) (hkk1 : w + k75 = 3) (hw : 0 ≤ w) (hq1 : pCutF i (p_flow X) = it (fun w f => up f (i * 3 + w) (f ((i + 1) * 3 + w))) k75 w f) (H : Heap) (locs : List Loc) (ls : Array Slot), HW g A zs.heap (pW g o ad (ps_flow (ps_callee (ps_to (ps_from X (up (p_from X) i (p_from X (i + 1)))) (up (p_to X) i (p_to X (i + 1)))) (up (p_callee X) i (p_callee X (i + 1)))) f)) H locs → lv_has ls 4 [(0, .ref (o)), (1, .int (iI (e))), (2, .int (iI (i))), (3, .int (iI (w)))] → W zp l ze (rmm 1 21) zs zm (List.toArray [.ref (o), .int (iI (e))]) zb zt zc H locs 0 0 (MQ zb (QW g (pW g o ad P) (pW g o ad ((pCut P e).2)) zs.heap.size (some (.int (iI ((pCut P e).1))))) (List.toArray [.ref (o), .int (iI (e))]) zs 0 0 A) (F0 zm 75 ls []) := by
            intro k75
            induction k75 with
            | zero =>
              intro w f hkk1 hw hq1 H locs ls hW hl
              refine r_iload_n C dX0_cutEdge_75 hl 3 rfl ?_
              refine r_iconst (z := 3) C dX0_cutEdge_76 rfl ?_
              refine r_icmp_ge C 108 dX0_cutEdge_77 (by decide) (by omega) (by omega) (fun hc4 => ?_) (fun hc4 => ?_)
              · skip
                refine r_iinc (v := i + 1) C [(2, .int (iI (i + 1))), (0, .ref (o)), (1, .int (iI (e))), (3, .int (iI (w)))] dX0_cutEdge_108 hl 2 rfl (by decide) (by omega) rfl (fun ls hl => ?_)
                refine r_goto C 23 dX0_cutEdge_111 (by decide) ?_
                exact ih23 (i + 1) (ps_flow (ps_callee (ps_to (ps_from X (up (p_from X) i (p_from X (i + 1)))) (up (p_to X) i (p_to X (i + 1)))) (up (p_callee X) i (p_callee X (i + 1)))) f) (by omega) (by omega) hX (by rw [hq0, it_s, show pCut1 i X = ps_flow (ps_callee (ps_to (ps_from X (up (p_from X) i (p_from X (i + 1)))) (up (p_to X) i (p_to X (i + 1)))) (up (p_callee X) i (p_callee X (i + 1)))) f from by unfold pCut1; rw [hq1]; rfl]) _ _ ls hW (lv_sub hl [1, 2, 0] rfl)
              · exact absurd hc4 (by omega)
            | succ k75 ih75 =>
              intro w f hkk1 hw hq1 H locs ls hW hl
              refine r_iload_n C dX0_cutEdge_75 hl 3 rfl ?_
              refine r_iconst (z := 3) C dX0_cutEdge_76 rfl ?_
              refine r_icmp_ge C 108 dX0_cutEdge_77 (by decide) (by omega) (by omega) (fun hc5 => ?_) (fun hc5 => ?_)
              · exact absurd hc5 (by omega)
              · skip
                refine r_aload_n C dX0_cutEdge_80 hl 0 rfl ?_
                refine r_get (v := .ref (ad 7)) C f_X0_46 hW.1 0 rfl rfl dX0_cutEdge_81 ?_
                refine r_iload_n C dX0_cutEdge_84 hl 2 rfl ?_
                refine r_iconst (z := 3) C dX0_cutEdge_85 rfl ?_
                refine r_imul C dX0_cutEdge_86 ?_
                refine r_iload_n C dX0_cutEdge_87 hl 3 rfl ?_
                refine r_iadd C dX0_cutEdge_88 ?_
                refine r_aload_n C dX0_cutEdge_89 hl 0 rfl ?_
                refine r_get (v := .ref (ad 7)) C f_X0_46 hW.1 0 rfl rfl dX0_cutEdge_90 ?_
                refine r_iload_n C dX0_cutEdge_93 hl 2 rfl ?_
                refine r_iconst (z := 1) C dX0_cutEdge_94 rfl ?_
                refine r_iadd C dX0_cutEdge_95 ?_
                refine r_iconst (z := 3) C dX0_cutEdge_96 rfl ?_
                refine r_imul C dX0_cutEdge_97 ?_
                refine r_iload_n C dX0_cutEdge_98 hl 3 rfl ?_
                refine r_iadd C dX0_cutEdge_99 ?_
                refine r_lald (f := f) C hW.1 8 rfl (Nat.le_of_ble_eq_true rfl) (by omega) dX0_cutEdge_100 ?_
                refine r_last (f := f) C hW (pW g o ad (ps_flow (ps_flow (ps_callee (ps_to (ps_from X (up (p_from X) i (p_from X (i + 1)))) (up (p_to X) i (p_to X (i + 1)))) (up (p_callee X) i (p_callee X (i + 1)))) f) (up f ((i * 3) + w) (f (((i + 1) * 3) + w))))) 8 rfl (Nat.le_of_ble_eq_true rfl) (by omega) rfl dX0_cutEdge_101 (fun H locs hW => ?_)
                refine r_iinc (v := w + 1) C [(3, .int (iI (w + 1))), (0, .ref (o)), (1, .int (iI (e))), (2, .int (iI (i)))] dX0_cutEdge_102 hl 3 rfl (by decide) (by omega) rfl (fun ls hl => ?_)
                refine r_goto C 75 dX0_cutEdge_105 (by decide) ?_
                exact ih75 _ _ (by omega) (by omega) (by rw [hq1, it_s]) _ _ ls hW (lv_sub hl [1, 2, 3, 0] rfl)
          exact hloop75 3 0 _ (by omega) (by omega) rfl _ _ ls hW (lv_sub hl [1, 2, 3, 0] rfl)
    exact hloop23 (p_edges P - 1 - e).toNat e _ (by omega) (by omega) rfl (by unfold pCut; rw [if_pos (by assumption)]) _ _ ls hW (lv_sub hl [1, 2, 0] rfl)
  · skip
    refine r_bipush (z := -2) C dX0_cutEdge_8 rfl ?_
    have hE : pCut P e = (-2, P) := by exact if_neg (by assumption)
    exact MW_iret C hAe hrt hlk hW dX0_cutEdge_10 (iw (by rw [hE])) (by rw [hE])

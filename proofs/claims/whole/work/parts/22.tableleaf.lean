set_option maxHeartbeats 4000000 in
set_option maxRecDepth 100000 in
theorem c_X0_copy (l : Launch) (g : GG) (o : Nat) (ad : Nat → Nat) (P : Pg) (o2 : Nat) (ad2 : Nat → Nat) (P2 : Pg) (hP2 : pOk P2) : MW l g yX0_copy cX0_copy 2 none 1 40 [.ref (o), .ref (o2)] (pW g o ad P ++ pW g o2 ad2 P2) (pW g o ad (ps_flow (ps_callee (ps_to (ps_from (ps_kindOf (ps_procOf (ps_exitOf (ps_entryOf (ps_start (ps_edges (ps_nodes (ps_procs P (p_procs P2)) (p_nodes P2)) (p_edges P2)) (p_start P2)) (cpI (p_entryOf P2) (p_entryOf P) (p_procs P2))) (cpI (p_exitOf P2) (p_exitOf P) (p_procs P2))) (cpI (p_procOf P2) (p_procOf P) (p_nodes P2))) (cpI (p_kindOf P2) (p_kindOf P) (p_nodes P2))) (cpI (p_from P2) (p_from P) (p_edges P2))) (cpI (p_to P2) (p_to P) (p_edges P2))) (cpI (p_callee P2) (p_callee P) (p_edges P2))) (cpI (p_flow P2) (p_flow P) (p_edges P2 * 3))) ++ pW g o2 ad2 P2) none := by
  refine MW_start (by decide) (Nat.le_of_ble_eq_true rfl) ?_
  intro zp ze zs zm zb zt zc A hAe C hrt hlk hW ls hl
  have hA : ∀ q, zs.heap.size ≤ q → A q := fun q h => by rw [hAe]; exact Or.inr h
  have hl : lv_has ls 2 [(0, .ref (o)), (1, .ref (o2))] := hl
  obtain ⟨hP2_procs, hP2_nodes, hP2_edges, hP2_start, hP2_entryOf, hP2_exitOf, hP2_procOf, hP2_kindOf, hP2_from, hP2_to, hP2_callee⟩ := id hP2
  refine r_aload_n C dX0_copy_0 hl 0 rfl ?_
  refine r_aload_n C dX0_copy_1 hl 1 rfl ?_
  refine r_get (v := .int (iI (p_procs P2))) C f_X0_9 hW.1 9 rfl rfl dX0_copy_2 ?_
  refine r_put C f_X0_9 fp_0_0 hW (pW g o ad (ps_procs P (p_procs P2)) ++ pW g o2 ad2 P2) 0 rfl rfl rfl (Nat.le_of_ble_eq_true rfl) rfl dX0_copy_5 (fun H locs hW => ?_)
  refine r_aload_n C dX0_copy_8 hl 0 rfl ?_
  refine r_aload_n C dX0_copy_9 hl 1 rfl ?_
  refine r_get (v := .int (iI (p_nodes P2))) C f_X0_15 hW.1 9 rfl rfl dX0_copy_10 ?_
  refine r_put C f_X0_15 fp_0_1 hW (pW g o ad (ps_nodes (ps_procs P (p_procs P2)) (p_nodes P2)) ++ pW g o2 ad2 P2) 0 rfl rfl rfl (Nat.le_of_ble_eq_true rfl) rfl dX0_copy_13 (fun H locs hW => ?_)
  refine r_aload_n C dX0_copy_16 hl 0 rfl ?_
  refine r_aload_n C dX0_copy_17 hl 1 rfl ?_
  refine r_get (v := .int (iI (p_edges P2))) C f_X0_18 hW.1 9 rfl rfl dX0_copy_18 ?_
  refine r_put C f_X0_18 fp_0_2 hW (pW g o ad (ps_edges (ps_nodes (ps_procs P (p_procs P2)) (p_nodes P2)) (p_edges P2)) ++ pW g o2 ad2 P2) 0 rfl rfl rfl (Nat.le_of_ble_eq_true rfl) rfl dX0_copy_21 (fun H locs hW => ?_)
  refine r_aload_n C dX0_copy_24 hl 0 rfl ?_
  refine r_aload_n C dX0_copy_25 hl 1 rfl ?_
  refine r_get (v := .int (iI (p_start P2))) C f_X0_21 hW.1 9 rfl rfl dX0_copy_26 ?_
  refine r_put C f_X0_21 fp_0_3 hW (pW g o ad (ps_start (ps_edges (ps_nodes (ps_procs P (p_procs P2)) (p_nodes P2)) (p_edges P2)) (p_start P2)) ++ pW g o2 ad2 P2) 0 rfl rfl rfl (Nat.le_of_ble_eq_true rfl) rfl dX0_copy_29 (fun H locs hW => ?_)
  refine r_aload_n C dX0_copy_32 hl 1 rfl ?_
  refine r_get (v := .ref (ad2 0)) C f_X0_24 hW.1 9 rfl rfl dX0_copy_33 ?_
  refine r_iconst (z := 0) C dX0_copy_36 rfl ?_
  refine r_aload_n C dX0_copy_37 hl 0 rfl ?_
  refine r_get (v := .ref (ad 0)) C f_X0_24 hW.1 0 rfl rfl dX0_copy_38 ?_
  refine r_iconst (z := 0) C dX0_copy_41 rfl ?_
  refine r_aload_n C dX0_copy_42 hl 0 rfl ?_
  refine r_get (v := .int (iI (p_procs P2))) C f_X0_9 hW.1 0 rfl rfl dX0_copy_43 ?_
  refine r_copyi (f := p_entryOf P2) (h := p_entryOf P) C hl.1 k_225 hW (pW g o ad (ps_entryOf (ps_start (ps_edges (ps_nodes (ps_procs P (p_procs P2)) (p_nodes P2)) (p_edges P2)) (p_start P2)) (cpI (p_entryOf P2) (p_entryOf P) (p_procs P2))) ++ pW g o2 ad2 P2) 10 1 rfl rfl (by omega) (Nat.le_of_ble_eq_true rfl) (by decide) (by decide) rfl dX0_copy_46 (fun H locs hW => ?_)
  refine r_aload_n C dX0_copy_49 hl 1 rfl ?_
  refine r_get (v := .ref (ad2 1)) C f_X0_28 hW.1 9 rfl rfl dX0_copy_50 ?_
  refine r_iconst (z := 0) C dX0_copy_53 rfl ?_
  refine r_aload_n C dX0_copy_54 hl 0 rfl ?_
  refine r_get (v := .ref (ad 1)) C f_X0_28 hW.1 0 rfl rfl dX0_copy_55 ?_
  refine r_iconst (z := 0) C dX0_copy_58 rfl ?_
  refine r_aload_n C dX0_copy_59 hl 0 rfl ?_
  refine r_get (v := .int (iI (p_procs P2))) C f_X0_9 hW.1 0 rfl rfl dX0_copy_60 ?_
  refine r_copyi (f := p_exitOf P2) (h := p_exitOf P) C hl.1 k_225 hW (pW g o ad (ps_exitOf (ps_entryOf (ps_start (ps_edges (ps_nodes (ps_procs P (p_procs P2)) (p_nodes P2)) (p_edges P2)) (p_start P2)) (cpI (p_entryOf P2) (p_entryOf P) (p_procs P2))) (cpI (p_exitOf P2) (p_exitOf P) (p_procs P2))) ++ pW g o2 ad2 P2) 11 2 rfl rfl (by omega) (Nat.le_of_ble_eq_true rfl) (by decide) (by decide) rfl dX0_copy_63 (fun H locs hW => ?_)
  refine r_aload_n C dX0_copy_66 hl 1 rfl ?_
  refine r_get (v := .ref (ad2 2)) C f_X0_31 hW.1 9 rfl rfl dX0_copy_67 ?_
  refine r_iconst (z := 0) C dX0_copy_70 rfl ?_
  refine r_aload_n C dX0_copy_71 hl 0 rfl ?_
  refine r_get (v := .ref (ad 2)) C f_X0_31 hW.1 0 rfl rfl dX0_copy_72 ?_
  refine r_iconst (z := 0) C dX0_copy_75 rfl ?_
  refine r_aload_n C dX0_copy_76 hl 0 rfl ?_
  refine r_get (v := .int (iI (p_nodes P2))) C f_X0_15 hW.1 0 rfl rfl dX0_copy_77 ?_
  refine r_copyi (f := p_procOf P2) (h := p_procOf P) C hl.1 k_225 hW (pW g o ad (ps_procOf (ps_exitOf (ps_entryOf (ps_start (ps_edges (ps_nodes (ps_procs P (p_procs P2)) (p_nodes P2)) (p_edges P2)) (p_start P2)) (cpI (p_entryOf P2) (p_entryOf P) (p_procs P2))) (cpI (p_exitOf P2) (p_exitOf P) (p_procs P2))) (cpI (p_procOf P2) (p_procOf P) (p_nodes P2))) ++ pW g o2 ad2 P2) 12 3 rfl rfl (by omega) (Nat.le_of_ble_eq_true rfl) (by decide) (by decide) rfl dX0_copy_80 (fun H locs hW => ?_)
  refine r_aload_n C dX0_copy_83 hl 1 rfl ?_
  refine r_get (v := .ref (ad2 3)) C f_X0_34 hW.1 9 rfl rfl dX0_copy_84 ?_
  refine r_iconst (z := 0) C dX0_copy_87 rfl ?_
  refine r_aload_n C dX0_copy_88 hl 0 rfl ?_
  refine r_get (v := .ref (ad 3)) C f_X0_34 hW.1 0 rfl rfl dX0_copy_89 ?_
  refine r_iconst (z := 0) C dX0_copy_92 rfl ?_
  refine r_aload_n C dX0_copy_93 hl 0 rfl ?_
  refine r_get (v := .int (iI (p_nodes P2))) C f_X0_15 hW.1 0 rfl rfl dX0_copy_94 ?_
  refine r_copyi (f := p_kindOf P2) (h := p_kindOf P) C hl.1 k_225 hW (pW g o ad (ps_kindOf (ps_procOf (ps_exitOf (ps_entryOf (ps_start (ps_edges (ps_nodes (ps_procs P (p_procs P2)) (p_nodes P2)) (p_edges P2)) (p_start P2)) (cpI (p_entryOf P2) (p_entryOf P) (p_procs P2))) (cpI (p_exitOf P2) (p_exitOf P) (p_procs P2))) (cpI (p_procOf P2) (p_procOf P) (p_nodes P2))) (cpI (p_kindOf P2) (p_kindOf P) (p_nodes P2))) ++ pW g o2 ad2 P2) 13 4 rfl rfl (by omega) (Nat.le_of_ble_eq_true rfl) (by decide) (by decide) rfl dX0_copy_97 (fun H locs hW => ?_)
  refine r_aload_n C dX0_copy_100 hl 1 rfl ?_
  refine r_get (v := .ref (ad2 4)) C f_X0_37 hW.1 9 rfl rfl dX0_copy_101 ?_
  refine r_iconst (z := 0) C dX0_copy_104 rfl ?_
  refine r_aload_n C dX0_copy_105 hl 0 rfl ?_
  refine r_get (v := .ref (ad 4)) C f_X0_37 hW.1 0 rfl rfl dX0_copy_106 ?_
  refine r_iconst (z := 0) C dX0_copy_109 rfl ?_
  refine r_aload_n C dX0_copy_110 hl 0 rfl ?_
  refine r_get (v := .int (iI (p_edges P2))) C f_X0_18 hW.1 0 rfl rfl dX0_copy_111 ?_
  refine r_copyi (f := p_from P2) (h := p_from P) C hl.1 k_225 hW (pW g o ad (ps_from (ps_kindOf (ps_procOf (ps_exitOf (ps_entryOf (ps_start (ps_edges (ps_nodes (ps_procs P (p_procs P2)) (p_nodes P2)) (p_edges P2)) (p_start P2)) (cpI (p_entryOf P2) (p_entryOf P) (p_procs P2))) (cpI (p_exitOf P2) (p_exitOf P) (p_procs P2))) (cpI (p_procOf P2) (p_procOf P) (p_nodes P2))) (cpI (p_kindOf P2) (p_kindOf P) (p_nodes P2))) (cpI (p_from P2) (p_from P) (p_edges P2))) ++ pW g o2 ad2 P2) 14 5 rfl rfl (by omega) (Nat.le_of_ble_eq_true rfl) (by decide) (by decide) rfl dX0_copy_114 (fun H locs hW => ?_)
  refine r_aload_n C dX0_copy_117 hl 1 rfl ?_
  refine r_get (v := .ref (ad2 5)) C f_X0_40 hW.1 9 rfl rfl dX0_copy_118 ?_
  refine r_iconst (z := 0) C dX0_copy_121 rfl ?_
  refine r_aload_n C dX0_copy_122 hl 0 rfl ?_
  refine r_get (v := .ref (ad 5)) C f_X0_40 hW.1 0 rfl rfl dX0_copy_123 ?_
  refine r_iconst (z := 0) C dX0_copy_126 rfl ?_
  refine r_aload_n C dX0_copy_127 hl 0 rfl ?_
  refine r_get (v := .int (iI (p_edges P2))) C f_X0_18 hW.1 0 rfl rfl dX0_copy_128 ?_
  refine r_copyi (f := p_to P2) (h := p_to P) C hl.1 k_225 hW (pW g o ad (ps_to (ps_from (ps_kindOf (ps_procOf (ps_exitOf (ps_entryOf (ps_start (ps_edges (ps_nodes (ps_procs P (p_procs P2)) (p_nodes P2)) (p_edges P2)) (p_start P2)) (cpI (p_entryOf P2) (p_entryOf P) (p_procs P2))) (cpI (p_exitOf P2) (p_exitOf P) (p_procs P2))) (cpI (p_procOf P2) (p_procOf P) (p_nodes P2))) (cpI (p_kindOf P2) (p_kindOf P) (p_nodes P2))) (cpI (p_from P2) (p_from P) (p_edges P2))) (cpI (p_to P2) (p_to P) (p_edges P2))) ++ pW g o2 ad2 P2) 15 6 rfl rfl (by omega) (Nat.le_of_ble_eq_true rfl) (by decide) (by decide) rfl dX0_copy_131 (fun H locs hW => ?_)
  refine r_aload_n C dX0_copy_134 hl 1 rfl ?_
  refine r_get (v := .ref (ad2 6)) C f_X0_43 hW.1 9 rfl rfl dX0_copy_135 ?_
  refine r_iconst (z := 0) C dX0_copy_138 rfl ?_
  refine r_aload_n C dX0_copy_139 hl 0 rfl ?_
  refine r_get (v := .ref (ad 6)) C f_X0_43 hW.1 0 rfl rfl dX0_copy_140 ?_
  refine r_iconst (z := 0) C dX0_copy_143 rfl ?_
  refine r_aload_n C dX0_copy_144 hl 0 rfl ?_
  refine r_get (v := .int (iI (p_edges P2))) C f_X0_18 hW.1 0 rfl rfl dX0_copy_145 ?_
  refine r_copyi (f := p_callee P2) (h := p_callee P) C hl.1 k_225 hW (pW g o ad (ps_callee (ps_to (ps_from (ps_kindOf (ps_procOf (ps_exitOf (ps_entryOf (ps_start (ps_edges (ps_nodes (ps_procs P (p_procs P2)) (p_nodes P2)) (p_edges P2)) (p_start P2)) (cpI (p_entryOf P2) (p_entryOf P) (p_procs P2))) (cpI (p_exitOf P2) (p_exitOf P) (p_procs P2))) (cpI (p_procOf P2) (p_procOf P) (p_nodes P2))) (cpI (p_kindOf P2) (p_kindOf P) (p_nodes P2))) (cpI (p_from P2) (p_from P) (p_edges P2))) (cpI (p_to P2) (p_to P) (p_edges P2))) (cpI (p_callee P2) (p_callee P) (p_edges P2))) ++ pW g o2 ad2 P2) 16 7 rfl rfl (by omega) (Nat.le_of_ble_eq_true rfl) (by decide) (by decide) rfl dX0_copy_148 (fun H locs hW => ?_)
  refine r_aload_n C dX0_copy_151 hl 1 rfl ?_
  refine r_get (v := .ref (ad2 7)) C f_X0_46 hW.1 9 rfl rfl dX0_copy_152 ?_
  refine r_iconst (z := 0) C dX0_copy_155 rfl ?_
  refine r_aload_n C dX0_copy_156 hl 0 rfl ?_
  refine r_get (v := .ref (ad 7)) C f_X0_46 hW.1 0 rfl rfl dX0_copy_157 ?_
  refine r_iconst (z := 0) C dX0_copy_160 rfl ?_
  refine r_aload_n C dX0_copy_161 hl 0 rfl ?_
  refine r_get (v := .int (iI (p_edges P2))) C f_X0_18 hW.1 0 rfl rfl dX0_copy_162 ?_
  refine r_iconst (z := 3) C dX0_copy_165 rfl ?_
  refine r_imul C dX0_copy_166 ?_
  refine r_copyl (f := p_flow P2) (h := p_flow P) C hl.1 k_225 hW (pW g o ad (ps_flow (ps_callee (ps_to (ps_from (ps_kindOf (ps_procOf (ps_exitOf (ps_entryOf (ps_start (ps_edges (ps_nodes (ps_procs P (p_procs P2)) (p_nodes P2)) (p_edges P2)) (p_start P2)) (cpI (p_entryOf P2) (p_entryOf P) (p_procs P2))) (cpI (p_exitOf P2) (p_exitOf P) (p_procs P2))) (cpI (p_procOf P2) (p_procOf P) (p_nodes P2))) (cpI (p_kindOf P2) (p_kindOf P) (p_nodes P2))) (cpI (p_from P2) (p_from P) (p_edges P2))) (cpI (p_to P2) (p_to P) (p_edges P2))) (cpI (p_callee P2) (p_callee P) (p_edges P2))) (cpI (p_flow P2) (p_flow P) ((p_edges P2) * 3))) ++ pW g o2 ad2 P2) 17 8 rfl rfl (by omega) (Nat.le_of_ble_eq_true rfl) (by decide) (by decide) rfl dX0_copy_167 (fun H locs hW => ?_)
  exact MW_vret C hAe hrt hlk hW dX0_copy_170 rfl rfl
set_option maxHeartbeats 4000000 in
set_option maxRecDepth 100000 in
theorem c_X2_nodeOf (l : Launch) (g : GG) (o : Nat) (ad : Nat → Nat) (T : Tb) (x : Int) (hT : tOk T) (hx : 0 ≤ x ∧ x < 1536) : MR l g yX2_nodeOf cX2_nodeOf 2 (some .int) 0 0 [.ref (o), .int (iI (x))] (tW g o ad T) (.int (iI (t_keys T x / 64))) := by
  refine MR_start (by decide) (Nat.le_of_ble_eq_true rfl) ?_
  intro zp ze zs zm zb zt zc C hrt hlk hH ls hl
  have hl : lv_has ls 2 [(0, .ref (o)), (1, .int (iI (x)))] := hl
  obtain ⟨hT_ready, hT_seedProc, hT_seedFacts, hT_size, hT_seen, hT_keys, hT_placeOf, hT_before, hT_through, hT_way, hT_inner, hT_sites, hT_siteCount⟩ := id hT
  refine r_aload_n C dX2_nodeOf_0 hl 0 rfl ?_
  refine r_get (v := .ref (ad 1)) C f_X2_29 hH 0 rfl rfl dX2_nodeOf_1 ?_
  refine r_iload_n C dX2_nodeOf_4 hl 1 rfl ?_
  refine r_iald (f := t_keys T) C hH 2 rfl (Nat.le_of_ble_eq_true rfl) (by omega) dX2_nodeOf_5 ?_
  have hr1 := hT_keys x (by omega) (by omega)
  refine r_bipush (z := 64) C dX2_nodeOf_6 rfl ?_
  refine r_idiv C (by omega) dX2_nodeOf_8 ?_
  exact MR_iret C hrt hlk dX2_nodeOf_9 (iv rfl)
set_option maxHeartbeats 4000000 in
set_option maxRecDepth 100000 in
theorem c_X2_factAtEntry (l : Launch) (g : GG) (o : Nat) (ad : Nat → Nat) (T : Tb) (x : Int) (hT : tOk T) (hx : 0 ≤ x ∧ x < 1536) : MR l g yX2_factAtEntry cX2_factAtEntry 2 (some .int) 0 0 [.ref (o), .int (iI (x))] (tW g o ad T) (.int (iI (t_keys T x / 8 % 8))) := by
  refine MR_start (by decide) (Nat.le_of_ble_eq_true rfl) ?_
  intro zp ze zs zm zb zt zc C hrt hlk hH ls hl
  have hl : lv_has ls 2 [(0, .ref (o)), (1, .int (iI (x)))] := hl
  obtain ⟨hT_ready, hT_seedProc, hT_seedFacts, hT_size, hT_seen, hT_keys, hT_placeOf, hT_before, hT_through, hT_way, hT_inner, hT_sites, hT_siteCount⟩ := id hT
  refine r_aload_n C dX2_factAtEntry_0 hl 0 rfl ?_
  refine r_get (v := .ref (ad 1)) C f_X2_29 hH 0 rfl rfl dX2_factAtEntry_1 ?_
  refine r_iload_n C dX2_factAtEntry_4 hl 1 rfl ?_
  refine r_iald (f := t_keys T) C hH 2 rfl (Nat.le_of_ble_eq_true rfl) (by omega) dX2_factAtEntry_5 ?_
  have hr1 := hT_keys x (by omega) (by omega)
  refine r_bipush (z := 8) C dX2_factAtEntry_6 rfl ?_
  refine r_idiv C (by omega) dX2_factAtEntry_8 ?_
  refine r_bipush (z := 8) C dX2_factAtEntry_9 rfl ?_
  refine r_irem C (by omega) dX2_factAtEntry_11 ?_
  exact MR_iret C hrt hlk dX2_factAtEntry_12 (iv rfl)
set_option maxHeartbeats 4000000 in
set_option maxRecDepth 100000 in
theorem c_X2_factOf (l : Launch) (g : GG) (o : Nat) (ad : Nat → Nat) (T : Tb) (x : Int) (hT : tOk T) (hx : 0 ≤ x ∧ x < 1536) : MR l g yX2_factOf cX2_factOf 2 (some .int) 0 0 [.ref (o), .int (iI (x))] (tW g o ad T) (.int (iI (t_keys T x % 8))) := by
  refine MR_start (by decide) (Nat.le_of_ble_eq_true rfl) ?_
  intro zp ze zs zm zb zt zc C hrt hlk hH ls hl
  have hl : lv_has ls 2 [(0, .ref (o)), (1, .int (iI (x)))] := hl
  obtain ⟨hT_ready, hT_seedProc, hT_seedFacts, hT_size, hT_seen, hT_keys, hT_placeOf, hT_before, hT_through, hT_way, hT_inner, hT_sites, hT_siteCount⟩ := id hT
  refine r_aload_n C dX2_factOf_0 hl 0 rfl ?_
  refine r_get (v := .ref (ad 1)) C f_X2_29 hH 0 rfl rfl dX2_factOf_1 ?_
  refine r_iload_n C dX2_factOf_4 hl 1 rfl ?_
  refine r_iald (f := t_keys T) C hH 2 rfl (Nat.le_of_ble_eq_true rfl) (by omega) dX2_factOf_5 ?_
  have hr1 := hT_keys x (by omega) (by omega)
  refine r_bipush (z := 8) C dX2_factOf_6 rfl ?_
  refine r_irem C (by omega) dX2_factOf_8 ?_
  exact MR_iret C hrt hlk dX2_factOf_9 (iv rfl)
set_option maxHeartbeats 4000000 in
set_option maxRecDepth 100000 in
theorem c_X2_factsAt (l : Launch) (g : GG) (o : Nat) (ad : Nat → Nat) (T : Tb) (n : Int) (hT : tOk T) (hn : 0 ≤ n ∧ n < 24) : MR l g yX2_factsAt cX2_factsAt 4 (some .int) 1 21 [.ref (o), .int (iI (n))] (tW g o ad T) (.int (iI (tFacts T n))) := by
  refine MR_start (by decide) (Nat.le_of_ble_eq_true rfl) ?_
  intro zp ze zs zm zb zt zc C hrt hlk hH ls hl
  have hl : lv_has ls 4 [(0, .ref (o)), (1, .int (iI (n)))] := hl
  obtain ⟨hT_ready, hT_seedProc, hT_seedFacts, hT_size, hT_seen, hT_keys, hT_placeOf, hT_before, hT_through, hT_way, hT_inner, hT_sites, hT_siteCount⟩ := id hT
  refine r_iconst (z := 0) C dX2_factsAt_0 rfl ?_
  refine r_istore_n C [(2, .int (iI (0))), (0, .ref (o)), (1, .int (iI (n)))] dX2_factsAt_1 hl (by decide) rfl (fun ls hl => ?_)
  refine r_iconst (z := 0) C dX2_factsAt_2 rfl ?_
  refine r_istore_n C [(3, .int (iI (0))), (2, .int (iI (0))), (0, .ref (o)), (1, .int (iI (n)))] dX2_factsAt_3 hl (by decide) rfl (fun ls hl => ?_)
  have hloop4 : ∀ (k4 : Nat) (a r : Int) (hkk : a + k4 = 8) (ha : 0 ≤ a) (hr1 : 0 ≤ r ∧ r < 256) (hq : tFacts T n = it (fun a r => bO r (t_seen T (n * 8 + a))) k4 a r) (ls : Array Slot), lv_has ls 4 [(0, .ref (o)), (1, .int (iI (n))), (2, .int (iI (r))), (3, .int (iI (a)))] → W zp l ze (rmm 1 21) zs zm (List.toArray [.ref (o), .int (iI (n))]) zb zt zc zs.heap [] 0 0 (MQ zb (QR (.int (iI (tFacts T n)))) (List.toArray [.ref (o), .int (iI (n))]) zs 0 0 (fun _ => False)) (F0 zm 4 ls []) := by
    intro k4
    induction k4 with
    | zero =>
      intro a r hkk ha hr1 hq ls hl
      refine r_iload_n C dX2_factsAt_4 hl 3 rfl ?_
      refine r_bipush (z := 8) C dX2_factsAt_5 rfl ?_
      refine r_icmp_ge C 29 dX2_factsAt_7 (by decide) (by omega) (by omega) (fun hc1 => ?_) (fun hc1 => ?_)
      · skip
        refine r_iload_n C dX2_factsAt_29 hl 2 rfl ?_
        exact MR_iret C hrt hlk dX2_factsAt_30 (iv (by rw [hq]; rfl))
      · exact absurd hc1 (by omega)
    | succ k4 ih4 =>
      intro a r hkk ha hr1 hq ls hl
      refine r_iload_n C dX2_factsAt_4 hl 3 rfl ?_
      refine r_bipush (z := 8) C dX2_factsAt_5 rfl ?_
      refine r_icmp_ge C 29 dX2_factsAt_7 (by decide) (by omega) (by omega) (fun hc2 => ?_) (fun hc2 => ?_)
      · exact absurd hc2 (by omega)
      · skip
        refine r_iload_n C dX2_factsAt_10 hl 2 rfl ?_
        refine r_aload_n C dX2_factsAt_11 hl 0 rfl ?_
        refine r_get (v := .ref (ad 0)) C f_X2_25 hH 0 rfl rfl dX2_factsAt_12 ?_
        refine r_iload_n C dX2_factsAt_15 hl 1 rfl ?_
        refine r_iload_n C dX2_factsAt_16 hl 3 rfl ?_
        refine r_callRN (rest := [.ref (ad 0), .int (iI (r))]) (r := .int (iI (n * 8 + a))) C hl.1 (c_X4_cell l g  n a) v_X2_62 rfl (fun k q h => by simp at h) (by decide) (by decide) (Nat.le_of_ble_eq_true rfl) dX2_factsAt_17 rfl ?_
        refine r_iald (f := t_seen T) C hH 1 rfl (Nat.le_of_ble_eq_true rfl) (by omega) dX2_factsAt_20 ?_
        have hr3 := hT_seen (n * 8 + a) (by omega) (by omega)
        refine r_ior C (by omega) (by omega) dX2_factsAt_21 ?_
        have hb4 := bO_0 r (t_seen T (n * 8 + a))
        have hb5 : bO r (t_seen T (n * 8 + a)) < 256 := bO_8 (by omega) (by omega)
        refine r_istore_n C [(2, .int (iI (bO r (t_seen T (n * 8 + a))))), (0, .ref (o)), (1, .int (iI (n))), (3, .int (iI (a)))] dX2_factsAt_22 hl (by decide) rfl (fun ls hl => ?_)
        refine r_iinc (v := a + 1) C [(3, .int (iI (a + 1))), (2, .int (iI (bO r (t_seen T (n * 8 + a))))), (0, .ref (o)), (1, .int (iI (n)))] dX2_factsAt_23 hl 3 rfl (by decide) (by omega) rfl (fun ls hl => ?_)
        refine r_goto C 4 dX2_factsAt_26 (by decide) ?_
        exact ih4 _ _ (by omega) (by omega) (by omega) (by rw [hq, it_s]) ls (lv_sub hl [2, 3, 1, 0] rfl)
  exact hloop4 8 0 0 (by omega) (by omega) (by omega) rfl ls (lv_sub hl [2, 3, 1, 0] rfl)
set_option maxHeartbeats 4000000 in
set_option maxRecDepth 100000 in
theorem c_X2_firstWith (l : Launch) (g : GG) (o : Nat) (ad : Nat → Nat) (T : Tb) (n f : Int) (hT : tOk T) (hn : 0 ≤ n ∧ n < 24) (hf : 0 ≤ f ∧ f < 8) : MR l g yX2_firstWith cX2_firstWith 6 (some .int) 1 40 [.ref (o), .int (iI (n)), .int (iI (f))] (tW g o ad T) (.int (iI (tFirst T n f))) := by
  refine MR_start (by decide) (Nat.le_of_ble_eq_true rfl) ?_
  intro zp ze zs zm zb zt zc C hrt hlk hH ls hl
  have hl : lv_has ls 6 [(0, .ref (o)), (1, .int (iI (n))), (2, .int (iI (f)))] := hl
  obtain ⟨hT_ready, hT_seedProc, hT_seedFacts, hT_size, hT_seen, hT_keys, hT_placeOf, hT_before, hT_through, hT_way, hT_inner, hT_sites, hT_siteCount⟩ := id hT
  refine r_iconst (z := -1) C dX2_firstWith_0 rfl ?_
  refine r_istore_n C [(3, .int (iI (-1))), (0, .ref (o)), (1, .int (iI (n))), (2, .int (iI (f)))] dX2_firstWith_1 hl (by decide) rfl (fun ls hl => ?_)
  refine r_iconst (z := 0) C dX2_firstWith_2 rfl ?_
  refine r_istore C [(4, .int (iI (0))), (3, .int (iI (-1))), (0, .ref (o)), (1, .int (iI (n))), (2, .int (iI (f)))] dX2_firstWith_3 hl (by decide) rfl (fun ls hl => ?_)
  have hloop5 : ∀ (k5 : Nat) (a r : Int) (hkk : a + k5 = 8) (ha : 0 ≤ a) (hr1 : -1 ≤ r ∧ r < 1536) (hq : tFirst T n f = it (fun a r => if tb (t_seen T (n * 8 + a)) f = true then (if r = -1 then t_placeOf T ((n * 8 + a) * 8 + f) else min r (t_placeOf T ((n * 8 + a) * 8 + f))) else r) k5 a r) (ls : Array Slot), lv_has ls 6 [(0, .ref (o)), (1, .int (iI (n))), (2, .int (iI (f))), (3, .int (iI (r))), (4, .int (iI (a)))] → W zp l ze (rmm 1 40) zs zm (List.toArray [.ref (o), .int (iI (n)), .int (iI (f))]) zb zt zc zs.heap [] 0 0 (MQ zb (QR (.int (iI (tFirst T n f)))) (List.toArray [.ref (o), .int (iI (n)), .int (iI (f))]) zs 0 0 (fun _ => False)) (F0 zm 5 ls []) := by
    intro k5
    induction k5 with
    | zero =>
      intro a r hkk ha hr1 hq ls hl
      refine r_iload C dX2_firstWith_5 hl 4 rfl ?_
      refine r_bipush (z := 8) C dX2_firstWith_7 rfl ?_
      refine r_icmp_ge C 71 dX2_firstWith_9 (by decide) (by omega) (by omega) (fun hc1 => ?_) (fun hc1 => ?_)
      · skip
        refine r_iload_n C dX2_firstWith_71 hl 3 rfl ?_
        exact MR_iret C hrt hlk dX2_firstWith_72 (iv (by rw [hq]; rfl))
      · exact absurd hc1 (by omega)
    | succ k5 ih5 =>
      intro a r hkk ha hr1 hq ls hl
      refine r_iload C dX2_firstWith_5 hl 4 rfl ?_
      refine r_bipush (z := 8) C dX2_firstWith_7 rfl ?_
      refine r_icmp_ge C 71 dX2_firstWith_9 (by decide) (by omega) (by omega) (fun hc2 => ?_) (fun hc2 => ?_)
      · exact absurd hc2 (by omega)
      · skip
        refine r_aload_n C dX2_firstWith_12 hl 0 rfl ?_
        refine r_get (v := .ref (ad 0)) C f_X2_25 hH 0 rfl rfl dX2_firstWith_13 ?_
        refine r_iload_n C dX2_firstWith_16 hl 1 rfl ?_
        refine r_iload C dX2_firstWith_17 hl 4 rfl ?_
        refine r_callRN (rest := [.ref (ad 0)]) (r := .int (iI (n * 8 + a))) C hl.1 (c_X4_cell l g  n a) v_X2_62 rfl (fun k q h => by simp at h) (by decide) (by decide) (Nat.le_of_ble_eq_true rfl) dX2_firstWith_19 rfl ?_
        refine r_iald (f := t_seen T) C hH 1 rfl (Nat.le_of_ble_eq_true rfl) (by omega) dX2_firstWith_22 ?_
        have hr3 := hT_seen (n * 8 + a) (by omega) (by omega)
        refine r_iload_n C dX2_firstWith_23 hl 2 rfl ?_
        refine r_callRN (rest := []) (r := .int (iI (bI (tb (t_seen T (n * 8 + a)) f = true)))) C hl.1 (c_X4_has l g  (t_seen T (n * 8 + a)) f (show 0 ≤ (t_seen T (n * 8 + a)) ∧ (t_seen T (n * 8 + a)) < 2147483648 by omega) (show 0 ≤ f ∧ f < 31 by omega)) v_X2_53 rfl (fun k q h => by simp at h) (by decide) (by decide) (Nat.le_of_ble_eq_true rfl) dX2_firstWith_24 rfl ?_
        refine r_ifb_eq C 65 dX2_firstWith_27 (by decide) (fun hc4 => ?_) (fun hc4 => ?_)
        · skip
          refine r_iinc (v := a + 1) C [(4, .int (iI (a + 1))), (0, .ref (o)), (1, .int (iI (n))), (2, .int (iI (f))), (3, .int (iI (r)))] dX2_firstWith_65 hl 4 rfl (by decide) (by omega) rfl (fun ls hl => ?_)
          refine r_goto C 5 dX2_firstWith_68 (by decide) ?_
          exact ih5 _ _ (by omega) (by omega) (by omega) (by rw [hq, it_s, if_neg hc4]) ls (lv_sub hl [1, 2, 3, 4, 0] rfl)
        · skip
          refine r_aload_n C dX2_firstWith_30 hl 0 rfl ?_
          refine r_get (v := .ref (ad 2)) C f_X2_32 hH 0 rfl rfl dX2_firstWith_31 ?_
          refine r_iload_n C dX2_firstWith_34 hl 1 rfl ?_
          refine r_iload C dX2_firstWith_35 hl 4 rfl ?_
          refine r_callRN (rest := [.ref (ad 2)]) (r := .int (iI (n * 8 + a))) C hl.1 (c_X4_cell l g  n a) v_X2_62 rfl (fun k q h => by simp at h) (by decide) (by decide) (Nat.le_of_ble_eq_true rfl) dX2_firstWith_37 rfl ?_
          refine r_bipush (z := 8) C dX2_firstWith_40 rfl ?_
          refine r_imul C dX2_firstWith_42 ?_
          refine r_iload_n C dX2_firstWith_43 hl 2 rfl ?_
          refine r_iadd C dX2_firstWith_44 ?_
          refine r_iald (f := t_placeOf T) C hH 3 rfl (Nat.le_of_ble_eq_true rfl) (by omega) dX2_firstWith_45 ?_
          have hr5 := hT_placeOf (((n * 8 + a) * 8) + f) (by omega) (by omega)
          refine r_istore C [(5, .int (iI (t_placeOf T (((n * 8 + a) * 8) + f)))), (0, .ref (o)), (1, .int (iI (n))), (2, .int (iI (f))), (3, .int (iI (r))), (4, .int (iI (a)))] dX2_firstWith_46 hl (by decide) rfl (fun ls hl => ?_)
          refine r_iload_n C dX2_firstWith_48 hl 4 rfl ?_
          refine r_iconst (z := -1) C dX2_firstWith_49 rfl ?_
          refine r_icmp_ne C 58 dX2_firstWith_50 (by decide) (by omega) (by omega) (fun hc6 => ?_) (fun hc6 => ?_)
          · skip
            refine r_iload_n C dX2_firstWith_58 hl 4 rfl ?_
            refine r_iload C dX2_firstWith_59 hl 0 rfl ?_
            refine r_min C hl.1 k_372 km_static k_8 km_code (by decide) (by decide) (Nat.zero_le _) (Nat.zero_le _) (by omega) (by omega) dX2_firstWith_61 ?_
            refine r_istore_n C [(3, .int (iI (min r (t_placeOf T (((n * 8 + a) * 8) + f))))), (5, .int (iI (t_placeOf T (((n * 8 + a) * 8) + f)))), (0, .ref (o)), (1, .int (iI (n))), (2, .int (iI (f))), (4, .int (iI (a)))] dX2_firstWith_64 hl (by decide) rfl (fun ls hl => ?_)
            refine r_iinc (v := a + 1) C [(4, .int (iI (a + 1))), (3, .int (iI (min r (t_placeOf T (((n * 8 + a) * 8) + f))))), (5, .int (iI (t_placeOf T (((n * 8 + a) * 8) + f)))), (0, .ref (o)), (1, .int (iI (n))), (2, .int (iI (f)))] dX2_firstWith_65 hl 5 rfl (by decide) (by omega) rfl (fun ls hl => ?_)
            refine r_goto C 5 dX2_firstWith_68 (by decide) ?_
            exact ih5 _ _ (by omega) (by omega) (by omega) (by rw [hq, it_s, if_pos hc4, if_neg hc6]) ls (lv_sub hl [3, 4, 5, 1, 0] rfl)
          · skip
            refine r_iload C dX2_firstWith_53 hl 0 rfl ?_
            refine r_goto C 64 dX2_firstWith_55 (by decide) ?_
            refine r_istore_n C [(3, .int (iI (t_placeOf T (((n * 8 + a) * 8) + f)))), (5, .int (iI (t_placeOf T (((n * 8 + a) * 8) + f)))), (0, .ref (o)), (1, .int (iI (n))), (2, .int (iI (f))), (4, .int (iI (a)))] dX2_firstWith_64 hl (by decide) rfl (fun ls hl => ?_)
            refine r_iinc (v := a + 1) C [(4, .int (iI (a + 1))), (3, .int (iI (t_placeOf T (((n * 8 + a) * 8) + f)))), (5, .int (iI (t_placeOf T (((n * 8 + a) * 8) + f)))), (0, .ref (o)), (1, .int (iI (n))), (2, .int (iI (f)))] dX2_firstWith_65 hl 5 rfl (by decide) (by omega) rfl (fun ls hl => ?_)
            refine r_goto C 5 dX2_firstWith_68 (by decide) ?_
            exact ih5 _ _ (by omega) (by omega) (by omega) (by rw [hq, it_s, if_pos hc4, if_pos hc6]) ls (lv_sub hl [3, 4, 5, 1, 0] rfl)
  exact hloop5 8 0 (-1) (by omega) (by omega) (by omega) rfl ls (lv_sub hl [2, 3, 4, 1, 0] rfl)
set_option maxHeartbeats 4000000 in
set_option maxRecDepth 100000 in
theorem c_X2_landing (l : Launch) (g : GG) (o : Nat) (ad : Nat → Nat) (T : Tb) (po : Nat) (pa : Nat → Nat) (P : Pg) (x e : Int) (hT : tOk T) (hP : pOk P) (hx : 0 ≤ x ∧ x < 1536) (he : 0 ≤ e ∧ e < 32) : MR l g yX2_landing cX2_landing 4 (some .int) 1 21 [.ref (o), .ref (po), .int (iI (x)), .int (iI (e))] (tW g o ad T ++ pW g po pa P) (.int (iI (p_to P e * 8 + t_keys T x / 8 % 8))) := by
  refine MR_start (by decide) (Nat.le_of_ble_eq_true rfl) ?_
  intro zp ze zs zm zb zt zc C hrt hlk hH ls hl
  have hl : lv_has ls 4 [(0, .ref (o)), (1, .ref (po)), (2, .int (iI (x))), (3, .int (iI (e)))] := hl
  obtain ⟨hT_ready, hT_seedProc, hT_seedFacts, hT_size, hT_seen, hT_keys, hT_placeOf, hT_before, hT_through, hT_way, hT_inner, hT_sites, hT_siteCount⟩ := id hT
  obtain ⟨hP_procs, hP_nodes, hP_edges, hP_start, hP_entryOf, hP_exitOf, hP_procOf, hP_kindOf, hP_from, hP_to, hP_callee⟩ := id hP
  refine r_aload_n C dX2_landing_0 hl 1 rfl ?_
  refine r_get (v := .ref (pa 5)) C f_X2_113 hH 9 rfl rfl dX2_landing_1 ?_
  refine r_iload_n C dX2_landing_4 hl 3 rfl ?_
  refine r_iald (f := p_to P) C hH 15 rfl (Nat.le_of_ble_eq_true rfl) (by omega) dX2_landing_5 ?_
  have hr1 := hP_to e (by omega) (by omega)
  refine r_aload_n C dX2_landing_6 hl 0 rfl ?_
  refine r_iload_n C dX2_landing_7 hl 2 rfl ?_
  refine r_callR (rest := [.int (iI (p_to P e))]) (r := .int (iI ((t_keys T) x / 8 % 8))) C hl.1 (c_X2_factAtEntry l g o ad T x (by assumption) (show 0 ≤ x ∧ x < 1536 by omega)) v_X2_116 rfl (hH.sub [0, 1, 2, 3, 4, 5, 6, 7, 8] rfl) 0 rfl rfl rfl (by decide) (by decide) (Nat.le_of_ble_eq_true rfl) dX2_landing_8 rfl ?_
  have hq2 := tKeys_q T x (by assumption) (by omega)
  refine r_callRN (rest := []) (r := .int (iI ((p_to P e) * 8 + ((t_keys T) x / 8 % 8)))) C hl.1 (c_X4_cell l g  (p_to P e) ((t_keys T) x / 8 % 8)) v_X2_62 rfl (fun k q h => by simp at h) (by decide) (by decide) (Nat.le_of_ble_eq_true rfl) dX2_landing_11 rfl ?_
  exact MR_iret C hrt hlk dX2_landing_14 (iv rfl)
set_option maxHeartbeats 4000000 in
set_option maxRecDepth 100000 in
theorem c_X2_noteSite (l : Launch) (g : GG) (o : Nat) (ad : Nat → Nat) (T : Tb) (x e : Int) (hT : tOk T) (hx : 0 ≤ x ∧ x < 1536) (he : 0 ≤ e ∧ e < 32) : MW l g yX2_noteSite cX2_noteSite 3 none 0 0 [.ref (o), .int (iI (x)), .int (iI (e))] (tW g o ad T) (tW g o ad (tNote x e T)) none := by
  refine MW_start (by decide) (Nat.le_of_ble_eq_true rfl) ?_
  intro zp ze zs zm zb zt zc A hAe C hrt hlk hW ls hl
  have hA : ∀ q, zs.heap.size ≤ q → A q := fun q h => by rw [hAe]; exact Or.inr h
  have hl : lv_has ls 3 [(0, .ref (o)), (1, .int (iI (x))), (2, .int (iI (e)))] := hl
  obtain ⟨hT_ready, hT_seedProc, hT_seedFacts, hT_size, hT_seen, hT_keys, hT_placeOf, hT_before, hT_through, hT_way, hT_inner, hT_sites, hT_siteCount⟩ := id hT
  refine r_aload_n C dX2_noteSite_0 hl 0 rfl ?_
  refine r_get (v := .int (iI (t_siteCount T))) C f_X2_50 hW.1 0 rfl rfl dX2_noteSite_1 ?_
  refine r_sipush (z := 2048) C dX2_noteSite_4 rfl ?_
  refine r_icmp_ge C 35 dX2_noteSite_7 (by decide) (by omega) (by omega) (fun hc1 => ?_) (fun hc1 => ?_)
  · skip
    have hE : tNote x e T = T := by unfold tNote; (repeat' split) <;> first | rfl | (exfalso; omega)
    exact MW_vret C hAe hrt hlk hW dX2_noteSite_35 rfl (by rw [hE])
  · skip
    refine r_aload_n C dX2_noteSite_10 hl 0 rfl ?_
    refine r_get (v := .ref (ad 7)) C f_X2_47 hW.1 0 rfl rfl dX2_noteSite_11 ?_
    refine r_aload_n C dX2_noteSite_14 hl 0 rfl ?_
    refine r_get (v := .int (iI (t_siteCount T))) C f_X2_50 hW.1 0 rfl rfl dX2_noteSite_15 ?_
    refine r_iload_n C dX2_noteSite_18 hl 1 rfl ?_
    refine r_bipush (z := 32) C dX2_noteSite_19 rfl ?_
    refine r_imul C dX2_noteSite_21 ?_
    refine r_iload_n C dX2_noteSite_22 hl 2 rfl ?_
    refine r_iadd C dX2_noteSite_23 ?_
    refine r_iast (f := t_sites T) C hW (tW g o ad (ts_sites T (up (t_sites T) (t_siteCount T) ((x * 32) + e)))) 8 rfl (Nat.le_of_ble_eq_true rfl) (by omega) rfl dX2_noteSite_24 (fun H locs hW => ?_)
    refine r_aload_n C dX2_noteSite_25 hl 0 rfl ?_
    refine r_dup C rfl dX2_noteSite_26 ?_
    refine r_get (v := .int (iI (t_siteCount T))) C f_X2_50 hW.1 0 rfl rfl dX2_noteSite_27 ?_
    refine r_iconst (z := 1) C dX2_noteSite_30 rfl ?_
    refine r_iadd C dX2_noteSite_31 ?_
    refine r_put C f_X2_50 fp_2_12 hW (tW g o ad (ts_siteCount (ts_sites T (up (t_sites T) (t_siteCount T) ((x * 32) + e))) ((t_siteCount T) + 1))) 0 rfl rfl rfl (Nat.le_of_ble_eq_true rfl) rfl dX2_noteSite_32 (fun H locs hW => ?_)
    have hE : tNote x e T = ts_siteCount (ts_sites T (up (t_sites T) (t_siteCount T) ((x * 32) + e))) ((t_siteCount T) + 1) := by unfold tNote; (repeat' split) <;> first | rfl | (exfalso; omega)
    exact MW_vret C hAe hrt hlk hW dX2_noteSite_35 rfl (by rw [hE])
set_option maxHeartbeats 4000000 in
set_option maxRecDepth 100000 in
theorem c_X2_come (l : Launch) (g : GG) (o : Nat) (ad : Nat → Nat) (T : Tb) (po : Nat) (pa : Nat → Nat) (P : Pg) (cell x y z : Int) (hT : tOk T) (hP : pOk P) (hcell : 0 ≤ cell ∧ cell < 192) (hx : 0 ≤ x ∧ x < 256) (hy : -1 ≤ y ∧ y < 1536) (hz : -1 ≤ z ∧ z < 1536) : MW l g yX2_come cX2_come 13 none 1 40 [.ref (o), .ref (po), .int (iI (cell)), .int (iI (x)), .int (iI (y)), .int (iI (z))] (tW g o ad T ++ pW g po pa P) (tW g o ad (tCome P cell x y z T) ++ pW g po pa P) none := by
  refine MW_start (by decide) (Nat.le_of_ble_eq_true rfl) ?_
  intro zp ze zs zm zb zt zc A hAe C hrt hlk hW ls hl
  have hA : ∀ q, zs.heap.size ≤ q → A q := fun q h => by rw [hAe]; exact Or.inr h
  have hl : lv_has ls 13 [(0, .ref (o)), (1, .ref (po)), (2, .int (iI (cell))), (3, .int (iI (x))), (4, .int (iI (y))), (5, .int (iI (z)))] := hl
  obtain ⟨hT_ready, hT_seedProc, hT_seedFacts, hT_size, hT_seen, hT_keys, hT_placeOf, hT_before, hT_through, hT_way, hT_inner, hT_sites, hT_siteCount⟩ := id hT
  obtain ⟨hP_procs, hP_nodes, hP_edges, hP_start, hP_entryOf, hP_exitOf, hP_procOf, hP_kindOf, hP_from, hP_to, hP_callee⟩ := id hP
  have hloop144 : ∀ (k144 : Nat) (b fr wl il : Int) (X : Tb) (hkk : b + k144 = 8) (hb : 0 ≤ b) (hfr : 0 ≤ fr ∧ fr < 256) (hXs : 0 ≤ t_size X ∧ t_size X ≤ 1536) (hq : tCome P cell x y z T = it (tComeF cell y z wl il fr) k144 b X) (H : Heap) (locs : List Loc) (ls : Array Slot), HW g A zs.heap (tW g o ad X ++ pW g po pa P) H locs → lv_has ls 13 [(0, .ref (o)), (2, .int (iI (cell))), (4, .int (iI (y))), (5, .int (iI (z))), (6, .int (iI (fr))), (10, .int (iI (wl))), (11, .int (iI (il))), (12, .int (iI (b)))] → W zp l ze (rmm 1 40) zs zm (List.toArray [.ref (o), .ref (po), .int (iI (cell)), .int (iI (x)), .int (iI (y)), .int (iI (z))]) zb zt zc H locs 0 0 (MQ zb (QW g (tW g o ad T ++ pW g po pa P) (tW g o ad (tCome P cell x y z T) ++ pW g po pa P) zs.heap.size none) (List.toArray [.ref (o), .ref (po), .int (iI (cell)), .int (iI (x)), .int (iI (y)), .int (iI (z))]) zs 0 0 A) (F0 zm 144 ls []) := by
    intro k144
    induction k144 with
    | zero =>
      intro b fr wl il X hkk hb hfr hXs hq H locs ls hW hl
      refine r_iload C dX2_come_144 hl 7 rfl ?_
      refine r_bipush (z := 8) C dX2_come_146 rfl ?_
      refine r_icmp_ge C 263 dX2_come_148 (by decide) (by omega) (by omega) (fun hc1 => ?_) (fun hc1 => ?_)
      · skip
        have hE : tCome P cell x y z T = X := by rw [hq]; rfl
        exact MW_vret C hAe hrt hlk hW dX2_come_263 rfl (by rw [hE])
      · exact absurd hc1 (by omega)
    | succ k144 ih144 =>
      intro b fr wl il X hkk hb hfr hXs hq H locs ls hW hl
      refine r_iload C dX2_come_144 hl 7 rfl ?_
      refine r_bipush (z := 8) C dX2_come_146 rfl ?_
      refine r_icmp_ge C 263 dX2_come_148 (by decide) (by omega) (by omega) (fun hc2 => ?_) (fun hc2 => ?_)
      · exact absurd hc2 (by omega)
      · skip
        refine r_iload C dX2_come_151 hl 4 rfl ?_
        refine r_iload C dX2_come_153 hl 7 rfl ?_
        refine r_callRN (rest := []) (r := .int (iI (bI (tb fr b = true)))) C hl.1 (c_X4_has l g  fr b (show 0 ≤ fr ∧ fr < 2147483648 by omega) (show 0 ≤ b ∧ b < 31 by omega)) v_X2_53 rfl (fun k q h => by simp at h) (by decide) (by decide) (Nat.le_of_ble_eq_true rfl) dX2_come_155 rfl ?_
        refine r_ifb_eq C 257 dX2_come_158 (by decide) (fun hc3 => ?_) (fun hc3 => ?_)
        · skip
          refine r_iinc (v := b + 1) C [(12, .int (iI (b + 1))), (0, .ref (o)), (2, .int (iI (cell))), (4, .int (iI (y))), (5, .int (iI (z))), (6, .int (iI (fr))), (10, .int (iI (wl))), (11, .int (iI (il)))] dX2_come_257 hl 7 rfl (by decide) (by omega) rfl (fun ls hl => ?_)
          refine r_goto C 144 dX2_come_260 (by decide) ?_
          exact ih144 _ fr wl il (X) (by omega) (by omega) (by omega) (by assumption) (by rw [hq, it_s, show tComeF cell y z wl il fr b X = X from if_neg (fun h => hc3 h.1)]) _ _ ls hW (lv_sub hl [1, 2, 3, 4, 5, 6, 7, 0] rfl)
        · skip
          refine r_aload_n C dX2_come_161 hl 0 rfl ?_
          refine r_get (v := .int (iI (t_size X))) C f_X2_22 hW.1 0 rfl rfl dX2_come_162 ?_
          refine r_sipush (z := 1536) C dX2_come_165 rfl ?_
          refine r_icmp_ge C 257 dX2_come_168 (by decide) (by omega) (by omega) (fun hc4 => ?_) (fun hc4 => ?_)
          · skip
            refine r_iinc (v := b + 1) C [(12, .int (iI (b + 1))), (0, .ref (o)), (2, .int (iI (cell))), (4, .int (iI (y))), (5, .int (iI (z))), (6, .int (iI (fr))), (10, .int (iI (wl))), (11, .int (iI (il)))] dX2_come_257 hl 7 rfl (by decide) (by omega) rfl (fun ls hl => ?_)
            refine r_goto C 144 dX2_come_260 (by decide) ?_
            exact ih144 _ fr wl il (X) (by omega) (by omega) (by omega) (by assumption) (by rw [hq, it_s, show tComeF cell y z wl il fr b X = X from if_neg (fun h => absurd h.2 (by omega))]) _ _ ls hW (lv_sub hl [1, 2, 3, 4, 5, 6, 7, 0] rfl)
          · skip
            refine r_aload_n C dX2_come_171 hl 0 rfl ?_
            refine r_get (v := .ref (ad 1)) C f_X2_29 hW.1 0 rfl rfl dX2_come_172 ?_
            refine r_aload_n C dX2_come_175 hl 0 rfl ?_
            refine r_get (v := .int (iI (t_size X))) C f_X2_22 hW.1 0 rfl rfl dX2_come_176 ?_
            refine r_iload_n C dX2_come_179 hl 1 rfl ?_
            refine r_bipush (z := 8) C dX2_come_180 rfl ?_
            refine r_imul C dX2_come_182 ?_
            refine r_iload C dX2_come_183 hl 7 rfl ?_
            refine r_iadd C dX2_come_185 ?_
            refine r_iast (f := t_keys X) C hW (tW g o ad (ts_keys X (up (t_keys X) (t_size X) ((cell * 8) + b))) ++ pW g po pa P) 2 rfl (Nat.le_of_ble_eq_true rfl) (by omega) rfl dX2_come_186 (fun H locs hW => ?_)
            refine r_aload_n C dX2_come_187 hl 0 rfl ?_
            refine r_get (v := .ref (ad 2)) C f_X2_32 hW.1 0 rfl rfl dX2_come_188 ?_
            refine r_iload_n C dX2_come_191 hl 1 rfl ?_
            refine r_bipush (z := 8) C dX2_come_192 rfl ?_
            refine r_imul C dX2_come_194 ?_
            refine r_iload C dX2_come_195 hl 7 rfl ?_
            refine r_iadd C dX2_come_197 ?_
            refine r_aload_n C dX2_come_198 hl 0 rfl ?_
            refine r_get (v := .int (iI (t_size X))) C f_X2_22 hW.1 0 rfl rfl dX2_come_199 ?_
            refine r_iast (f := t_placeOf X) C hW (tW g o ad (ts_placeOf (ts_keys X (up (t_keys X) (t_size X) ((cell * 8) + b))) (up (t_placeOf X) ((cell * 8) + b) (t_size X))) ++ pW g po pa P) 3 rfl (Nat.le_of_ble_eq_true rfl) (by omega) rfl dX2_come_202 (fun H locs hW => ?_)
            refine r_aload_n C dX2_come_203 hl 0 rfl ?_
            refine r_get (v := .ref (ad 3)) C f_X2_35 hW.1 0 rfl rfl dX2_come_204 ?_
            refine r_aload_n C dX2_come_207 hl 0 rfl ?_
            refine r_get (v := .int (iI (t_size X))) C f_X2_22 hW.1 0 rfl rfl dX2_come_208 ?_
            refine r_iload C dX2_come_211 hl 2 rfl ?_
            refine r_iast (f := t_before X) C hW (tW g o ad (ts_before (ts_placeOf (ts_keys X (up (t_keys X) (t_size X) ((cell * 8) + b))) (up (t_placeOf X) ((cell * 8) + b) (t_size X))) (up (t_before X) (t_size X) y)) ++ pW g po pa P) 4 rfl (Nat.le_of_ble_eq_true rfl) (by omega) rfl dX2_come_213 (fun H locs hW => ?_)
            refine r_aload_n C dX2_come_214 hl 0 rfl ?_
            refine r_get (v := .ref (ad 4)) C f_X2_38 hW.1 0 rfl rfl dX2_come_215 ?_
            refine r_aload_n C dX2_come_218 hl 0 rfl ?_
            refine r_get (v := .int (iI (t_size X))) C f_X2_22 hW.1 0 rfl rfl dX2_come_219 ?_
            refine r_iload C dX2_come_222 hl 3 rfl ?_
            refine r_iast (f := t_through X) C hW (tW g o ad (ts_through (ts_before (ts_placeOf (ts_keys X (up (t_keys X) (t_size X) ((cell * 8) + b))) (up (t_placeOf X) ((cell * 8) + b) (t_size X))) (up (t_before X) (t_size X) y)) (up (t_through X) (t_size X) z)) ++ pW g po pa P) 5 rfl (Nat.le_of_ble_eq_true rfl) (by omega) rfl dX2_come_224 (fun H locs hW => ?_)
            refine r_aload_n C dX2_come_225 hl 0 rfl ?_
            refine r_get (v := .ref (ad 5)) C f_X2_41 hW.1 0 rfl rfl dX2_come_226 ?_
            refine r_aload_n C dX2_come_229 hl 0 rfl ?_
            refine r_get (v := .int (iI (t_size X))) C f_X2_22 hW.1 0 rfl rfl dX2_come_230 ?_
            refine r_iload C dX2_come_233 hl 5 rfl ?_
            refine r_iast (f := t_way X) C hW (tW g o ad (ts_way (ts_through (ts_before (ts_placeOf (ts_keys X (up (t_keys X) (t_size X) ((cell * 8) + b))) (up (t_placeOf X) ((cell * 8) + b) (t_size X))) (up (t_before X) (t_size X) y)) (up (t_through X) (t_size X) z)) (up (t_way X) (t_size X) wl)) ++ pW g po pa P) 6 rfl (Nat.le_of_ble_eq_true rfl) (by omega) rfl dX2_come_235 (fun H locs hW => ?_)
            refine r_aload_n C dX2_come_236 hl 0 rfl ?_
            refine r_get (v := .ref (ad 6)) C f_X2_44 hW.1 0 rfl rfl dX2_come_237 ?_
            refine r_aload_n C dX2_come_240 hl 0 rfl ?_
            refine r_get (v := .int (iI (t_size X))) C f_X2_22 hW.1 0 rfl rfl dX2_come_241 ?_
            refine r_iload C dX2_come_244 hl 6 rfl ?_
            refine r_iast (f := t_inner X) C hW (tW g o ad (ts_inner (ts_way (ts_through (ts_before (ts_placeOf (ts_keys X (up (t_keys X) (t_size X) ((cell * 8) + b))) (up (t_placeOf X) ((cell * 8) + b) (t_size X))) (up (t_before X) (t_size X) y)) (up (t_through X) (t_size X) z)) (up (t_way X) (t_size X) wl)) (up (t_inner X) (t_size X) il)) ++ pW g po pa P) 7 rfl (Nat.le_of_ble_eq_true rfl) (by omega) rfl dX2_come_246 (fun H locs hW => ?_)
            refine r_aload_n C dX2_come_247 hl 0 rfl ?_
            refine r_dup C rfl dX2_come_248 ?_
            refine r_get (v := .int (iI (t_size X))) C f_X2_22 hW.1 0 rfl rfl dX2_come_249 ?_
            refine r_iconst (z := 1) C dX2_come_252 rfl ?_
            refine r_iadd C dX2_come_253 ?_
            refine r_put C f_X2_22 fp_2_3 hW (tW g o ad (ts_size (ts_inner (ts_way (ts_through (ts_before (ts_placeOf (ts_keys X (up (t_keys X) (t_size X) ((cell * 8) + b))) (up (t_placeOf X) ((cell * 8) + b) (t_size X))) (up (t_before X) (t_size X) y)) (up (t_through X) (t_size X) z)) (up (t_way X) (t_size X) wl)) (up (t_inner X) (t_size X) il)) ((t_size X) + 1)) ++ pW g po pa P) 0 rfl rfl rfl (Nat.le_of_ble_eq_true rfl) rfl dX2_come_254 (fun H locs hW => ?_)
            refine r_iinc (v := b + 1) C [(12, .int (iI (b + 1))), (0, .ref (o)), (2, .int (iI (cell))), (4, .int (iI (y))), (5, .int (iI (z))), (6, .int (iI (fr))), (10, .int (iI (wl))), (11, .int (iI (il)))] dX2_come_257 hl 7 rfl (by decide) (by omega) rfl (fun ls hl => ?_)
            refine r_goto C 144 dX2_come_260 (by decide) ?_
            exact ih144 _ fr wl il (ts_size (ts_inner (ts_way (ts_through (ts_before (ts_placeOf (ts_keys X (up (t_keys X) (t_size X) ((cell * 8) + b))) (up (t_placeOf X) ((cell * 8) + b) (t_size X))) (up (t_before X) (t_size X) y)) (up (t_through X) (t_size X) z)) (up (t_way X) (t_size X) wl)) (up (t_inner X) (t_size X) il)) ((t_size X) + 1)) (by omega) (by omega) (by omega) (show 0 ≤ t_size X + 1 ∧ t_size X + 1 ≤ 1536 by omega) (by rw [hq, it_s, show tComeF cell y z wl il fr b X = ts_size (ts_inner (ts_way (ts_through (ts_before (ts_placeOf (ts_keys X (up (t_keys X) (t_size X) ((cell * 8) + b))) (up (t_placeOf X) ((cell * 8) + b) (t_size X))) (up (t_before X) (t_size X) y)) (up (t_through X) (t_size X) z)) (up (t_way X) (t_size X) wl)) (up (t_inner X) (t_size X) il)) ((t_size X) + 1) from if_pos ⟨hc3, by omega⟩]) _ _ ls hW (lv_sub hl [1, 2, 3, 4, 5, 6, 7, 0] rfl)
  refine r_iload_n C dX2_come_0 hl 3 rfl ?_
  refine r_aload_n C dX2_come_1 hl 0 rfl ?_
  refine r_get (v := .ref (ad 0)) C f_X2_25 hW.1 0 rfl rfl dX2_come_2 ?_
  refine r_iload_n C dX2_come_5 hl 2 rfl ?_
  refine r_iald (f := t_seen T) C hW.1 1 rfl (Nat.le_of_ble_eq_true rfl) (by omega) dX2_come_6 ?_
  have hr5 := hT_seen cell (by omega) (by omega)
  refine r_iconst (z := -1) C dX2_come_7 rfl ?_
  refine r_inot C dX2_come_8 ?_
  refine r_iandN C (by omega) (by omega) (by omega) dX2_come_9 ?_
  have hb6 := bD_0 x (t_seen T cell)
  have hb7 : bD x (t_seen T cell) < 256 := bD_8 _ (by omega)
  refine r_istore C [(6, .int (iI (bD x (t_seen T cell)))), (0, .ref (o)), (1, .ref (po)), (2, .int (iI (cell))), (3, .int (iI (x))), (4, .int (iI (y))), (5, .int (iI (z)))] dX2_come_10 hl (by decide) rfl (fun ls hl => ?_)
  refine r_iload C dX2_come_12 hl 0 rfl ?_
  refine r_if_ne C 18 dX2_come_14 (by decide) (by omega) (fun hc8 => ?_) (fun hc8 => ?_)
  · skip
    refine r_iload C dX2_come_18 hl 5 rfl ?_
    refine r_iconst (z := -1) C dX2_come_20 rfl ?_
    refine r_icmp_ne C 28 dX2_come_21 (by decide) (by omega) (by omega) (fun hc9 => ?_) (fun hc9 => ?_)
    · skip
      refine r_iconst (z := 0) C dX2_come_28 rfl ?_
      refine r_istore C [(7, .int (iI (0))), (6, .int (iI (bD x (t_seen T cell)))), (0, .ref (o)), (1, .ref (po)), (2, .int (iI (cell))), (3, .int (iI (x))), (4, .int (iI (y))), (5, .int (iI (z)))] dX2_come_29 hl (by decide) rfl (fun ls hl => ?_)
      refine r_iload C dX2_come_31 hl 0 rfl ?_
      refine r_if_ne C 48 dX2_come_33 (by decide) (by omega) (fun hc10 => ?_) (fun hc10 => ?_)
      · exact absurd hc10 (by omega)
      · skip
        refine r_aload_n C dX2_come_36 hl 3 rfl ?_
        refine r_get (v := .ref (pa 3)) C f_X2_86 hW.1 9 rfl rfl dX2_come_37 ?_
        refine r_iload_n C dX2_come_40 hl 4 rfl ?_
        refine r_bipush (z := 8) C dX2_come_41 rfl ?_
        refine r_idiv C (by omega) dX2_come_43 ?_
        refine r_iald (f := p_kindOf P) C hW.1 13 rfl (Nat.le_of_ble_eq_true rfl) (by omega) dX2_come_44 ?_
        have hr11 := hP_kindOf (cell / 8) (by omega) (by omega)
        refine r_if_ne C 52 dX2_come_45 (by decide) (by omega) (fun hc12 => ?_) (fun hc12 => ?_)
        · skip
          refine r_iconst (z := 0) C dX2_come_52 rfl ?_
          refine r_istore C [(8, .int (iI (0))), (7, .int (iI (0))), (6, .int (iI (bD x (t_seen T cell)))), (0, .ref (o)), (1, .ref (po)), (2, .int (iI (cell))), (3, .int (iI (x))), (4, .int (iI (y))), (5, .int (iI (z)))] dX2_come_53 hl (by decide) rfl (fun ls hl => ?_)
          refine r_iconst (z := 1) C dX2_come_55 rfl ?_
          refine r_iload C dX2_come_56 hl 8 rfl ?_
          refine r_iconst (z := -1) C dX2_come_58 rfl ?_
          refine r_icmp_ne C 66 dX2_come_59 (by decide) (by omega) (by omega) (fun hc13 => ?_) (fun hc13 => ?_)
          · skip
            refine r_aload_n C dX2_come_66 hl 3 rfl ?_
            refine r_get (v := .ref (ad 6)) C f_X2_44 hW.1 0 rfl rfl dX2_come_67 ?_
            refine r_iload C dX2_come_70 hl 8 rfl ?_
            refine r_iald (f := t_inner T) C hW.1 7 rfl (Nat.le_of_ble_eq_true rfl) (by omega) dX2_come_72 ?_
            have hr14 := hT_inner z (by omega) (by omega)
            refine r_iadd C dX2_come_73 ?_
            refine r_istore C [(9, .int (iI (1 + (t_inner T z)))), (8, .int (iI (0))), (7, .int (iI (0))), (6, .int (iI (bD x (t_seen T cell)))), (0, .ref (o)), (1, .ref (po)), (2, .int (iI (cell))), (3, .int (iI (x))), (4, .int (iI (y))), (5, .int (iI (z)))] dX2_come_74 hl (by decide) rfl (fun ls hl => ?_)
            refine r_iload C dX2_come_76 hl 2 rfl ?_
            refine r_if_eq C 85 dX2_come_78 (by decide) (by omega) (fun hc15 => ?_) (fun hc15 => ?_)
            · skip
              refine r_aload_n C dX2_come_85 hl 4 rfl ?_
              refine r_get (v := .ref (ad 5)) C f_X2_41 hW.1 0 rfl rfl dX2_come_86 ?_
              refine r_iload C dX2_come_89 hl 8 rfl ?_
              refine r_iald (f := t_way T) C hW.1 6 rfl (Nat.le_of_ble_eq_true rfl) (by omega) dX2_come_91 ?_
              have hr16 := hT_way y (by omega) (by omega)
              refine r_iload C dX2_come_92 hl 0 rfl ?_
              refine r_iadd C dX2_come_94 ?_
              refine r_sipush (z := 1000) C dX2_come_95 rfl ?_
              refine r_min C hl.1 k_372 km_static k_8 km_code (by decide) (by decide) (Nat.zero_le _) (Nat.zero_le _) (by omega) (by omega) dX2_come_98 ?_
              refine r_istore C [(10, .int (iI (min ((t_way T y) + (1 + (t_inner T z))) 1000))), (9, .int (iI (1 + (t_inner T z)))), (8, .int (iI (0))), (7, .int (iI (0))), (6, .int (iI (bD x (t_seen T cell)))), (0, .ref (o)), (1, .ref (po)), (2, .int (iI (cell))), (3, .int (iI (x))), (4, .int (iI (y))), (5, .int (iI (z)))] dX2_come_101 hl (by decide) rfl (fun ls hl => ?_)
              refine r_iload C dX2_come_103 hl 2 rfl ?_
              refine r_if_eq C 112 dX2_come_105 (by decide) (by omega) (fun hc17 => ?_) (fun hc17 => ?_)
              · skip
                refine r_aload_n C dX2_come_112 hl 5 rfl ?_
                refine r_get (v := .ref (ad 6)) C f_X2_44 hW.1 0 rfl rfl dX2_come_113 ?_
                refine r_iload C dX2_come_116 hl 9 rfl ?_
                refine r_iald (f := t_inner T) C hW.1 7 rfl (Nat.le_of_ble_eq_true rfl) (by omega) dX2_come_118 ?_
                have hr18 := hT_inner y (by omega) (by omega)
                refine r_iload C dX2_come_119 hl 1 rfl ?_
                refine r_iadd C dX2_come_121 ?_
                refine r_sipush (z := 1000) C dX2_come_122 rfl ?_
                refine r_min C hl.1 k_372 km_static k_8 km_code (by decide) (by decide) (Nat.zero_le _) (Nat.zero_le _) (by omega) (by omega) dX2_come_125 ?_
                refine r_istore C [(11, .int (iI (min ((t_inner T y) + (1 + (t_inner T z))) 1000))), (10, .int (iI (min ((t_way T y) + (1 + (t_inner T z))) 1000))), (9, .int (iI (1 + (t_inner T z)))), (8, .int (iI (0))), (7, .int (iI (0))), (6, .int (iI (bD x (t_seen T cell)))), (0, .ref (o)), (1, .ref (po)), (2, .int (iI (cell))), (3, .int (iI (x))), (4, .int (iI (y))), (5, .int (iI (z)))] dX2_come_128 hl (by decide) rfl (fun ls hl => ?_)
                refine r_aload_n C dX2_come_130 hl 6 rfl ?_
                refine r_get (v := .ref (ad 0)) C f_X2_25 hW.1 0 rfl rfl dX2_come_131 ?_
                refine r_iload_n C dX2_come_134 hl 8 rfl ?_
                refine r_dup2 C rfl rfl dX2_come_135 ?_
                refine r_iald (f := t_seen T) C hW.1 1 rfl (Nat.le_of_ble_eq_true rfl) (by omega) dX2_come_136 ?_
                have hr19 := hT_seen cell (by omega) (by omega)
                refine r_iload C dX2_come_137 hl 5 rfl ?_
                refine r_ior C (by omega) (by omega) dX2_come_139 ?_
                have hb20 := bO_0 (t_seen T cell) (bD x (t_seen T cell))
                have hb21 : bO (t_seen T cell) (bD x (t_seen T cell)) < 256 := bO_8 (by omega) (by omega)
                refine r_iast (f := t_seen T) C hW (tW g o ad (ts_seen T (up (t_seen T) cell (bO (t_seen T cell) (bD x (t_seen T cell))))) ++ pW g po pa P) 1 rfl (Nat.le_of_ble_eq_true rfl) (by omega) rfl dX2_come_140 (fun H locs hW => ?_)
                refine r_iconst (z := 0) C dX2_come_141 rfl ?_
                refine r_istore C [(12, .int (iI (0))), (11, .int (iI (min ((t_inner T y) + (1 + (t_inner T z))) 1000))), (10, .int (iI (min ((t_way T y) + (1 + (t_inner T z))) 1000))), (9, .int (iI (1 + (t_inner T z)))), (8, .int (iI (0))), (7, .int (iI (0))), (6, .int (iI (bD x (t_seen T cell)))), (0, .ref (o)), (1, .ref (po)), (2, .int (iI (cell))), (3, .int (iI (x))), (4, .int (iI (y))), (5, .int (iI (z)))] dX2_come_142 hl (by decide) rfl (fun ls hl => ?_)
                have hwl : tWay T y z = min ((t_way T y) + (1 + (t_inner T z))) 1000 := by unfold tWay tWith; (repeat' split) <;> omega
                have hil : tInn P T cell y z = min ((t_inner T y) + (1 + (t_inner T z))) 1000 := by unfold tInn tWith; (repeat' split) <;> omega
                exact hloop144 8 0 (bD x (t_seen T cell)) (min ((t_way T y) + (1 + (t_inner T z))) 1000) (min ((t_inner T y) + (1 + (t_inner T z))) 1000) _ (by omega) (by omega) (by omega) (by assumption) (by unfold tCome; rw [if_neg (by assumption), hwl, hil]) _ _ ls hW (lv_sub hl [7, 9, 11, 12, 6, 2, 1, 0] rfl)
              · exact absurd hc17 (by omega)
            · exact absurd hc15 (by omega)
          · skip
            refine r_iconst (z := 0) C dX2_come_62 rfl ?_
            refine r_goto C 73 dX2_come_63 (by decide) ?_
            refine r_iadd C dX2_come_73 ?_
            refine r_istore C [(9, .int (iI (1 + 0))), (8, .int (iI (0))), (7, .int (iI (0))), (6, .int (iI (bD x (t_seen T cell)))), (0, .ref (o)), (1, .ref (po)), (2, .int (iI (cell))), (3, .int (iI (x))), (4, .int (iI (y))), (5, .int (iI (z)))] dX2_come_74 hl (by decide) rfl (fun ls hl => ?_)
            refine r_iload C dX2_come_76 hl 2 rfl ?_
            refine r_if_eq C 85 dX2_come_78 (by decide) (by omega) (fun hc22 => ?_) (fun hc22 => ?_)
            · skip
              refine r_aload_n C dX2_come_85 hl 4 rfl ?_
              refine r_get (v := .ref (ad 5)) C f_X2_41 hW.1 0 rfl rfl dX2_come_86 ?_
              refine r_iload C dX2_come_89 hl 8 rfl ?_
              refine r_iald (f := t_way T) C hW.1 6 rfl (Nat.le_of_ble_eq_true rfl) (by omega) dX2_come_91 ?_
              have hr23 := hT_way y (by omega) (by omega)
              refine r_iload C dX2_come_92 hl 0 rfl ?_
              refine r_iadd C dX2_come_94 ?_
              refine r_sipush (z := 1000) C dX2_come_95 rfl ?_
              refine r_min C hl.1 k_372 km_static k_8 km_code (by decide) (by decide) (Nat.zero_le _) (Nat.zero_le _) (by omega) (by omega) dX2_come_98 ?_
              refine r_istore C [(10, .int (iI (min ((t_way T y) + (1 + 0)) 1000))), (9, .int (iI (1 + 0))), (8, .int (iI (0))), (7, .int (iI (0))), (6, .int (iI (bD x (t_seen T cell)))), (0, .ref (o)), (1, .ref (po)), (2, .int (iI (cell))), (3, .int (iI (x))), (4, .int (iI (y))), (5, .int (iI (z)))] dX2_come_101 hl (by decide) rfl (fun ls hl => ?_)
              refine r_iload C dX2_come_103 hl 2 rfl ?_
              refine r_if_eq C 112 dX2_come_105 (by decide) (by omega) (fun hc24 => ?_) (fun hc24 => ?_)
              · skip
                refine r_aload_n C dX2_come_112 hl 5 rfl ?_
                refine r_get (v := .ref (ad 6)) C f_X2_44 hW.1 0 rfl rfl dX2_come_113 ?_
                refine r_iload C dX2_come_116 hl 9 rfl ?_
                refine r_iald (f := t_inner T) C hW.1 7 rfl (Nat.le_of_ble_eq_true rfl) (by omega) dX2_come_118 ?_
                have hr25 := hT_inner y (by omega) (by omega)
                refine r_iload C dX2_come_119 hl 1 rfl ?_
                refine r_iadd C dX2_come_121 ?_
                refine r_sipush (z := 1000) C dX2_come_122 rfl ?_
                refine r_min C hl.1 k_372 km_static k_8 km_code (by decide) (by decide) (Nat.zero_le _) (Nat.zero_le _) (by omega) (by omega) dX2_come_125 ?_
                refine r_istore C [(11, .int (iI (min ((t_inner T y) + (1 + 0)) 1000))), (10, .int (iI (min ((t_way T y) + (1 + 0)) 1000))), (9, .int (iI (1 + 0))), (8, .int (iI (0))), (7, .int (iI (0))), (6, .int (iI (bD x (t_seen T cell)))), (0, .ref (o)), (1, .ref (po)), (2, .int (iI (cell))), (3, .int (iI (x))), (4, .int (iI (y))), (5, .int (iI (z)))] dX2_come_128 hl (by decide) rfl (fun ls hl => ?_)
                refine r_aload_n C dX2_come_130 hl 6 rfl ?_
                refine r_get (v := .ref (ad 0)) C f_X2_25 hW.1 0 rfl rfl dX2_come_131 ?_
                refine r_iload_n C dX2_come_134 hl 8 rfl ?_
                refine r_dup2 C rfl rfl dX2_come_135 ?_
                refine r_iald (f := t_seen T) C hW.1 1 rfl (Nat.le_of_ble_eq_true rfl) (by omega) dX2_come_136 ?_
                have hr26 := hT_seen cell (by omega) (by omega)
                refine r_iload C dX2_come_137 hl 5 rfl ?_
                refine r_ior C (by omega) (by omega) dX2_come_139 ?_
                have hb27 := bO_0 (t_seen T cell) (bD x (t_seen T cell))
                have hb28 : bO (t_seen T cell) (bD x (t_seen T cell)) < 256 := bO_8 (by omega) (by omega)
                refine r_iast (f := t_seen T) C hW (tW g o ad (ts_seen T (up (t_seen T) cell (bO (t_seen T cell) (bD x (t_seen T cell))))) ++ pW g po pa P) 1 rfl (Nat.le_of_ble_eq_true rfl) (by omega) rfl dX2_come_140 (fun H locs hW => ?_)
                refine r_iconst (z := 0) C dX2_come_141 rfl ?_
                refine r_istore C [(12, .int (iI (0))), (11, .int (iI (min ((t_inner T y) + (1 + 0)) 1000))), (10, .int (iI (min ((t_way T y) + (1 + 0)) 1000))), (9, .int (iI (1 + 0))), (8, .int (iI (0))), (7, .int (iI (0))), (6, .int (iI (bD x (t_seen T cell)))), (0, .ref (o)), (1, .ref (po)), (2, .int (iI (cell))), (3, .int (iI (x))), (4, .int (iI (y))), (5, .int (iI (z)))] dX2_come_142 hl (by decide) rfl (fun ls hl => ?_)
                have hwl : tWay T y z = min ((t_way T y) + (1 + 0)) 1000 := by unfold tWay tWith; (repeat' split) <;> omega
                have hil : tInn P T cell y z = min ((t_inner T y) + (1 + 0)) 1000 := by unfold tInn tWith; (repeat' split) <;> omega
                exact hloop144 8 0 (bD x (t_seen T cell)) (min ((t_way T y) + (1 + 0)) 1000) (min ((t_inner T y) + (1 + 0)) 1000) _ (by omega) (by omega) (by omega) (by assumption) (by unfold tCome; rw [if_neg (by assumption), hwl, hil]) _ _ ls hW (lv_sub hl [7, 9, 11, 12, 6, 2, 1, 0] rfl)
              · exact absurd hc24 (by omega)
            · exact absurd hc22 (by omega)
        · skip
          refine r_iconst (z := 1) C dX2_come_48 rfl ?_
          refine r_goto C 53 dX2_come_49 (by decide) ?_
          refine r_istore C [(8, .int (iI (1))), (7, .int (iI (0))), (6, .int (iI (bD x (t_seen T cell)))), (0, .ref (o)), (1, .ref (po)), (2, .int (iI (cell))), (3, .int (iI (x))), (4, .int (iI (y))), (5, .int (iI (z)))] dX2_come_53 hl (by decide) rfl (fun ls hl => ?_)
          refine r_iconst (z := 1) C dX2_come_55 rfl ?_
          refine r_iload C dX2_come_56 hl 8 rfl ?_
          refine r_iconst (z := -1) C dX2_come_58 rfl ?_
          refine r_icmp_ne C 66 dX2_come_59 (by decide) (by omega) (by omega) (fun hc29 => ?_) (fun hc29 => ?_)
          · skip
            refine r_aload_n C dX2_come_66 hl 3 rfl ?_
            refine r_get (v := .ref (ad 6)) C f_X2_44 hW.1 0 rfl rfl dX2_come_67 ?_
            refine r_iload C dX2_come_70 hl 8 rfl ?_
            refine r_iald (f := t_inner T) C hW.1 7 rfl (Nat.le_of_ble_eq_true rfl) (by omega) dX2_come_72 ?_
            have hr30 := hT_inner z (by omega) (by omega)
            refine r_iadd C dX2_come_73 ?_
            refine r_istore C [(9, .int (iI (1 + (t_inner T z)))), (8, .int (iI (1))), (7, .int (iI (0))), (6, .int (iI (bD x (t_seen T cell)))), (0, .ref (o)), (1, .ref (po)), (2, .int (iI (cell))), (3, .int (iI (x))), (4, .int (iI (y))), (5, .int (iI (z)))] dX2_come_74 hl (by decide) rfl (fun ls hl => ?_)
            refine r_iload C dX2_come_76 hl 2 rfl ?_
            refine r_if_eq C 85 dX2_come_78 (by decide) (by omega) (fun hc31 => ?_) (fun hc31 => ?_)
            · skip
              refine r_aload_n C dX2_come_85 hl 4 rfl ?_
              refine r_get (v := .ref (ad 5)) C f_X2_41 hW.1 0 rfl rfl dX2_come_86 ?_
              refine r_iload C dX2_come_89 hl 8 rfl ?_
              refine r_iald (f := t_way T) C hW.1 6 rfl (Nat.le_of_ble_eq_true rfl) (by omega) dX2_come_91 ?_
              have hr32 := hT_way y (by omega) (by omega)
              refine r_iload C dX2_come_92 hl 0 rfl ?_
              refine r_iadd C dX2_come_94 ?_
              refine r_sipush (z := 1000) C dX2_come_95 rfl ?_
              refine r_min C hl.1 k_372 km_static k_8 km_code (by decide) (by decide) (Nat.zero_le _) (Nat.zero_le _) (by omega) (by omega) dX2_come_98 ?_
              refine r_istore C [(10, .int (iI (min ((t_way T y) + (1 + (t_inner T z))) 1000))), (9, .int (iI (1 + (t_inner T z)))), (8, .int (iI (1))), (7, .int (iI (0))), (6, .int (iI (bD x (t_seen T cell)))), (0, .ref (o)), (1, .ref (po)), (2, .int (iI (cell))), (3, .int (iI (x))), (4, .int (iI (y))), (5, .int (iI (z)))] dX2_come_101 hl (by decide) rfl (fun ls hl => ?_)
              refine r_iload C dX2_come_103 hl 2 rfl ?_
              refine r_if_eq C 112 dX2_come_105 (by decide) (by omega) (fun hc33 => ?_) (fun hc33 => ?_)
              · exact absurd hc33 (by omega)
              · skip
                refine r_iconst (z := 1) C dX2_come_108 rfl ?_
                refine r_goto C 128 dX2_come_109 (by decide) ?_
                refine r_istore C [(11, .int (iI (1))), (10, .int (iI (min ((t_way T y) + (1 + (t_inner T z))) 1000))), (9, .int (iI (1 + (t_inner T z)))), (8, .int (iI (1))), (7, .int (iI (0))), (6, .int (iI (bD x (t_seen T cell)))), (0, .ref (o)), (1, .ref (po)), (2, .int (iI (cell))), (3, .int (iI (x))), (4, .int (iI (y))), (5, .int (iI (z)))] dX2_come_128 hl (by decide) rfl (fun ls hl => ?_)
                refine r_aload_n C dX2_come_130 hl 6 rfl ?_
                refine r_get (v := .ref (ad 0)) C f_X2_25 hW.1 0 rfl rfl dX2_come_131 ?_
                refine r_iload_n C dX2_come_134 hl 8 rfl ?_
                refine r_dup2 C rfl rfl dX2_come_135 ?_
                refine r_iald (f := t_seen T) C hW.1 1 rfl (Nat.le_of_ble_eq_true rfl) (by omega) dX2_come_136 ?_
                have hr34 := hT_seen cell (by omega) (by omega)
                refine r_iload C dX2_come_137 hl 5 rfl ?_
                refine r_ior C (by omega) (by omega) dX2_come_139 ?_
                have hb35 := bO_0 (t_seen T cell) (bD x (t_seen T cell))
                have hb36 : bO (t_seen T cell) (bD x (t_seen T cell)) < 256 := bO_8 (by omega) (by omega)
                refine r_iast (f := t_seen T) C hW (tW g o ad (ts_seen T (up (t_seen T) cell (bO (t_seen T cell) (bD x (t_seen T cell))))) ++ pW g po pa P) 1 rfl (Nat.le_of_ble_eq_true rfl) (by omega) rfl dX2_come_140 (fun H locs hW => ?_)
                refine r_iconst (z := 0) C dX2_come_141 rfl ?_
                refine r_istore C [(12, .int (iI (0))), (11, .int (iI (1))), (10, .int (iI (min ((t_way T y) + (1 + (t_inner T z))) 1000))), (9, .int (iI (1 + (t_inner T z)))), (8, .int (iI (1))), (7, .int (iI (0))), (6, .int (iI (bD x (t_seen T cell)))), (0, .ref (o)), (1, .ref (po)), (2, .int (iI (cell))), (3, .int (iI (x))), (4, .int (iI (y))), (5, .int (iI (z)))] dX2_come_142 hl (by decide) rfl (fun ls hl => ?_)
                have hwl : tWay T y z = min ((t_way T y) + (1 + (t_inner T z))) 1000 := by unfold tWay tWith; (repeat' split) <;> omega
                have hil : tInn P T cell y z = 1 := by unfold tInn tWith; (repeat' split) <;> omega
                exact hloop144 8 0 (bD x (t_seen T cell)) (min ((t_way T y) + (1 + (t_inner T z))) 1000) 1 _ (by omega) (by omega) (by omega) (by assumption) (by unfold tCome; rw [if_neg (by assumption), hwl, hil]) _ _ ls hW (lv_sub hl [7, 9, 11, 12, 6, 2, 1, 0] rfl)
            · exact absurd hc31 (by omega)
          · skip
            refine r_iconst (z := 0) C dX2_come_62 rfl ?_
            refine r_goto C 73 dX2_come_63 (by decide) ?_
            refine r_iadd C dX2_come_73 ?_
            refine r_istore C [(9, .int (iI (1 + 0))), (8, .int (iI (1))), (7, .int (iI (0))), (6, .int (iI (bD x (t_seen T cell)))), (0, .ref (o)), (1, .ref (po)), (2, .int (iI (cell))), (3, .int (iI (x))), (4, .int (iI (y))), (5, .int (iI (z)))] dX2_come_74 hl (by decide) rfl (fun ls hl => ?_)
            refine r_iload C dX2_come_76 hl 2 rfl ?_
            refine r_if_eq C 85 dX2_come_78 (by decide) (by omega) (fun hc37 => ?_) (fun hc37 => ?_)
            · skip
              refine r_aload_n C dX2_come_85 hl 4 rfl ?_
              refine r_get (v := .ref (ad 5)) C f_X2_41 hW.1 0 rfl rfl dX2_come_86 ?_
              refine r_iload C dX2_come_89 hl 8 rfl ?_
              refine r_iald (f := t_way T) C hW.1 6 rfl (Nat.le_of_ble_eq_true rfl) (by omega) dX2_come_91 ?_
              have hr38 := hT_way y (by omega) (by omega)
              refine r_iload C dX2_come_92 hl 0 rfl ?_
              refine r_iadd C dX2_come_94 ?_
              refine r_sipush (z := 1000) C dX2_come_95 rfl ?_
              refine r_min C hl.1 k_372 km_static k_8 km_code (by decide) (by decide) (Nat.zero_le _) (Nat.zero_le _) (by omega) (by omega) dX2_come_98 ?_
              refine r_istore C [(10, .int (iI (min ((t_way T y) + (1 + 0)) 1000))), (9, .int (iI (1 + 0))), (8, .int (iI (1))), (7, .int (iI (0))), (6, .int (iI (bD x (t_seen T cell)))), (0, .ref (o)), (1, .ref (po)), (2, .int (iI (cell))), (3, .int (iI (x))), (4, .int (iI (y))), (5, .int (iI (z)))] dX2_come_101 hl (by decide) rfl (fun ls hl => ?_)
              refine r_iload C dX2_come_103 hl 2 rfl ?_
              refine r_if_eq C 112 dX2_come_105 (by decide) (by omega) (fun hc39 => ?_) (fun hc39 => ?_)
              · exact absurd hc39 (by omega)
              · skip
                refine r_iconst (z := 1) C dX2_come_108 rfl ?_
                refine r_goto C 128 dX2_come_109 (by decide) ?_
                refine r_istore C [(11, .int (iI (1))), (10, .int (iI (min ((t_way T y) + (1 + 0)) 1000))), (9, .int (iI (1 + 0))), (8, .int (iI (1))), (7, .int (iI (0))), (6, .int (iI (bD x (t_seen T cell)))), (0, .ref (o)), (1, .ref (po)), (2, .int (iI (cell))), (3, .int (iI (x))), (4, .int (iI (y))), (5, .int (iI (z)))] dX2_come_128 hl (by decide) rfl (fun ls hl => ?_)
                refine r_aload_n C dX2_come_130 hl 6 rfl ?_
                refine r_get (v := .ref (ad 0)) C f_X2_25 hW.1 0 rfl rfl dX2_come_131 ?_
                refine r_iload_n C dX2_come_134 hl 8 rfl ?_
                refine r_dup2 C rfl rfl dX2_come_135 ?_
                refine r_iald (f := t_seen T) C hW.1 1 rfl (Nat.le_of_ble_eq_true rfl) (by omega) dX2_come_136 ?_
                have hr40 := hT_seen cell (by omega) (by omega)
                refine r_iload C dX2_come_137 hl 5 rfl ?_
                refine r_ior C (by omega) (by omega) dX2_come_139 ?_
                have hb41 := bO_0 (t_seen T cell) (bD x (t_seen T cell))
                have hb42 : bO (t_seen T cell) (bD x (t_seen T cell)) < 256 := bO_8 (by omega) (by omega)
                refine r_iast (f := t_seen T) C hW (tW g o ad (ts_seen T (up (t_seen T) cell (bO (t_seen T cell) (bD x (t_seen T cell))))) ++ pW g po pa P) 1 rfl (Nat.le_of_ble_eq_true rfl) (by omega) rfl dX2_come_140 (fun H locs hW => ?_)
                refine r_iconst (z := 0) C dX2_come_141 rfl ?_
                refine r_istore C [(12, .int (iI (0))), (11, .int (iI (1))), (10, .int (iI (min ((t_way T y) + (1 + 0)) 1000))), (9, .int (iI (1 + 0))), (8, .int (iI (1))), (7, .int (iI (0))), (6, .int (iI (bD x (t_seen T cell)))), (0, .ref (o)), (1, .ref (po)), (2, .int (iI (cell))), (3, .int (iI (x))), (4, .int (iI (y))), (5, .int (iI (z)))] dX2_come_142 hl (by decide) rfl (fun ls hl => ?_)
                have hwl : tWay T y z = min ((t_way T y) + (1 + 0)) 1000 := by unfold tWay tWith; (repeat' split) <;> omega
                have hil : tInn P T cell y z = 1 := by unfold tInn tWith; (repeat' split) <;> omega
                exact hloop144 8 0 (bD x (t_seen T cell)) (min ((t_way T y) + (1 + 0)) 1000) 1 _ (by omega) (by omega) (by omega) (by assumption) (by unfold tCome; rw [if_neg (by assumption), hwl, hil]) _ _ ls hW (lv_sub hl [7, 9, 11, 12, 6, 2, 1, 0] rfl)
            · exact absurd hc37 (by omega)
    · skip
      refine r_iconst (z := 1) C dX2_come_24 rfl ?_
      refine r_goto C 29 dX2_come_25 (by decide) ?_
      refine r_istore C [(7, .int (iI (1))), (6, .int (iI (bD x (t_seen T cell)))), (0, .ref (o)), (1, .ref (po)), (2, .int (iI (cell))), (3, .int (iI (x))), (4, .int (iI (y))), (5, .int (iI (z)))] dX2_come_29 hl (by decide) rfl (fun ls hl => ?_)
      refine r_iload C dX2_come_31 hl 0 rfl ?_
      refine r_if_ne C 48 dX2_come_33 (by decide) (by omega) (fun hc43 => ?_) (fun hc43 => ?_)
      · skip
        refine r_iconst (z := 1) C dX2_come_48 rfl ?_
        refine r_goto C 53 dX2_come_49 (by decide) ?_
        refine r_istore C [(8, .int (iI (1))), (7, .int (iI (1))), (6, .int (iI (bD x (t_seen T cell)))), (0, .ref (o)), (1, .ref (po)), (2, .int (iI (cell))), (3, .int (iI (x))), (4, .int (iI (y))), (5, .int (iI (z)))] dX2_come_53 hl (by decide) rfl (fun ls hl => ?_)
        refine r_iconst (z := 1) C dX2_come_55 rfl ?_
        refine r_iload C dX2_come_56 hl 8 rfl ?_
        refine r_iconst (z := -1) C dX2_come_58 rfl ?_
        refine r_icmp_ne C 66 dX2_come_59 (by decide) (by omega) (by omega) (fun hc44 => ?_) (fun hc44 => ?_)
        · skip
          refine r_aload_n C dX2_come_66 hl 3 rfl ?_
          refine r_get (v := .ref (ad 6)) C f_X2_44 hW.1 0 rfl rfl dX2_come_67 ?_
          refine r_iload C dX2_come_70 hl 8 rfl ?_
          refine r_iald (f := t_inner T) C hW.1 7 rfl (Nat.le_of_ble_eq_true rfl) (by omega) dX2_come_72 ?_
          have hr45 := hT_inner z (by omega) (by omega)
          refine r_iadd C dX2_come_73 ?_
          refine r_istore C [(9, .int (iI (1 + (t_inner T z)))), (8, .int (iI (1))), (7, .int (iI (1))), (6, .int (iI (bD x (t_seen T cell)))), (0, .ref (o)), (1, .ref (po)), (2, .int (iI (cell))), (3, .int (iI (x))), (4, .int (iI (y))), (5, .int (iI (z)))] dX2_come_74 hl (by decide) rfl (fun ls hl => ?_)
          refine r_iload C dX2_come_76 hl 2 rfl ?_
          refine r_if_eq C 85 dX2_come_78 (by decide) (by omega) (fun hc46 => ?_) (fun hc46 => ?_)
          · exact absurd hc46 (by omega)
          · skip
            refine r_iconst (z := 1) C dX2_come_81 rfl ?_
            refine r_goto C 101 dX2_come_82 (by decide) ?_
            refine r_istore C [(10, .int (iI (1))), (9, .int (iI (1 + (t_inner T z)))), (8, .int (iI (1))), (7, .int (iI (1))), (6, .int (iI (bD x (t_seen T cell)))), (0, .ref (o)), (1, .ref (po)), (2, .int (iI (cell))), (3, .int (iI (x))), (4, .int (iI (y))), (5, .int (iI (z)))] dX2_come_101 hl (by decide) rfl (fun ls hl => ?_)
            refine r_iload C dX2_come_103 hl 2 rfl ?_
            refine r_if_eq C 112 dX2_come_105 (by decide) (by omega) (fun hc47 => ?_) (fun hc47 => ?_)
            · exact absurd hc47 (by omega)
            · skip
              refine r_iconst (z := 1) C dX2_come_108 rfl ?_
              refine r_goto C 128 dX2_come_109 (by decide) ?_
              refine r_istore C [(11, .int (iI (1))), (10, .int (iI (1))), (9, .int (iI (1 + (t_inner T z)))), (8, .int (iI (1))), (7, .int (iI (1))), (6, .int (iI (bD x (t_seen T cell)))), (0, .ref (o)), (1, .ref (po)), (2, .int (iI (cell))), (3, .int (iI (x))), (4, .int (iI (y))), (5, .int (iI (z)))] dX2_come_128 hl (by decide) rfl (fun ls hl => ?_)
              refine r_aload_n C dX2_come_130 hl 6 rfl ?_
              refine r_get (v := .ref (ad 0)) C f_X2_25 hW.1 0 rfl rfl dX2_come_131 ?_
              refine r_iload_n C dX2_come_134 hl 8 rfl ?_
              refine r_dup2 C rfl rfl dX2_come_135 ?_
              refine r_iald (f := t_seen T) C hW.1 1 rfl (Nat.le_of_ble_eq_true rfl) (by omega) dX2_come_136 ?_
              have hr48 := hT_seen cell (by omega) (by omega)
              refine r_iload C dX2_come_137 hl 5 rfl ?_
              refine r_ior C (by omega) (by omega) dX2_come_139 ?_
              have hb49 := bO_0 (t_seen T cell) (bD x (t_seen T cell))
              have hb50 : bO (t_seen T cell) (bD x (t_seen T cell)) < 256 := bO_8 (by omega) (by omega)
              refine r_iast (f := t_seen T) C hW (tW g o ad (ts_seen T (up (t_seen T) cell (bO (t_seen T cell) (bD x (t_seen T cell))))) ++ pW g po pa P) 1 rfl (Nat.le_of_ble_eq_true rfl) (by omega) rfl dX2_come_140 (fun H locs hW => ?_)
              refine r_iconst (z := 0) C dX2_come_141 rfl ?_
              refine r_istore C [(12, .int (iI (0))), (11, .int (iI (1))), (10, .int (iI (1))), (9, .int (iI (1 + (t_inner T z)))), (8, .int (iI (1))), (7, .int (iI (1))), (6, .int (iI (bD x (t_seen T cell)))), (0, .ref (o)), (1, .ref (po)), (2, .int (iI (cell))), (3, .int (iI (x))), (4, .int (iI (y))), (5, .int (iI (z)))] dX2_come_142 hl (by decide) rfl (fun ls hl => ?_)
              have hwl : tWay T y z = 1 := by unfold tWay tWith; (repeat' split) <;> omega
              have hil : tInn P T cell y z = 1 := by unfold tInn tWith; (repeat' split) <;> omega
              exact hloop144 8 0 (bD x (t_seen T cell)) 1 1 _ (by omega) (by omega) (by omega) (by assumption) (by unfold tCome; rw [if_neg (by assumption), hwl, hil]) _ _ ls hW (lv_sub hl [7, 9, 11, 12, 6, 2, 1, 0] rfl)
        · skip
          refine r_iconst (z := 0) C dX2_come_62 rfl ?_
          refine r_goto C 73 dX2_come_63 (by decide) ?_
          refine r_iadd C dX2_come_73 ?_
          refine r_istore C [(9, .int (iI (1 + 0))), (8, .int (iI (1))), (7, .int (iI (1))), (6, .int (iI (bD x (t_seen T cell)))), (0, .ref (o)), (1, .ref (po)), (2, .int (iI (cell))), (3, .int (iI (x))), (4, .int (iI (y))), (5, .int (iI (z)))] dX2_come_74 hl (by decide) rfl (fun ls hl => ?_)
          refine r_iload C dX2_come_76 hl 2 rfl ?_
          refine r_if_eq C 85 dX2_come_78 (by decide) (by omega) (fun hc51 => ?_) (fun hc51 => ?_)
          · exact absurd hc51 (by omega)
          · skip
            refine r_iconst (z := 1) C dX2_come_81 rfl ?_
            refine r_goto C 101 dX2_come_82 (by decide) ?_
            refine r_istore C [(10, .int (iI (1))), (9, .int (iI (1 + 0))), (8, .int (iI (1))), (7, .int (iI (1))), (6, .int (iI (bD x (t_seen T cell)))), (0, .ref (o)), (1, .ref (po)), (2, .int (iI (cell))), (3, .int (iI (x))), (4, .int (iI (y))), (5, .int (iI (z)))] dX2_come_101 hl (by decide) rfl (fun ls hl => ?_)
            refine r_iload C dX2_come_103 hl 2 rfl ?_
            refine r_if_eq C 112 dX2_come_105 (by decide) (by omega) (fun hc52 => ?_) (fun hc52 => ?_)
            · exact absurd hc52 (by omega)
            · skip
              refine r_iconst (z := 1) C dX2_come_108 rfl ?_
              refine r_goto C 128 dX2_come_109 (by decide) ?_
              refine r_istore C [(11, .int (iI (1))), (10, .int (iI (1))), (9, .int (iI (1 + 0))), (8, .int (iI (1))), (7, .int (iI (1))), (6, .int (iI (bD x (t_seen T cell)))), (0, .ref (o)), (1, .ref (po)), (2, .int (iI (cell))), (3, .int (iI (x))), (4, .int (iI (y))), (5, .int (iI (z)))] dX2_come_128 hl (by decide) rfl (fun ls hl => ?_)
              refine r_aload_n C dX2_come_130 hl 6 rfl ?_
              refine r_get (v := .ref (ad 0)) C f_X2_25 hW.1 0 rfl rfl dX2_come_131 ?_
              refine r_iload_n C dX2_come_134 hl 8 rfl ?_
              refine r_dup2 C rfl rfl dX2_come_135 ?_
              refine r_iald (f := t_seen T) C hW.1 1 rfl (Nat.le_of_ble_eq_true rfl) (by omega) dX2_come_136 ?_
              have hr53 := hT_seen cell (by omega) (by omega)
              refine r_iload C dX2_come_137 hl 5 rfl ?_
              refine r_ior C (by omega) (by omega) dX2_come_139 ?_
              have hb54 := bO_0 (t_seen T cell) (bD x (t_seen T cell))
              have hb55 : bO (t_seen T cell) (bD x (t_seen T cell)) < 256 := bO_8 (by omega) (by omega)
              refine r_iast (f := t_seen T) C hW (tW g o ad (ts_seen T (up (t_seen T) cell (bO (t_seen T cell) (bD x (t_seen T cell))))) ++ pW g po pa P) 1 rfl (Nat.le_of_ble_eq_true rfl) (by omega) rfl dX2_come_140 (fun H locs hW => ?_)
              refine r_iconst (z := 0) C dX2_come_141 rfl ?_
              refine r_istore C [(12, .int (iI (0))), (11, .int (iI (1))), (10, .int (iI (1))), (9, .int (iI (1 + 0))), (8, .int (iI (1))), (7, .int (iI (1))), (6, .int (iI (bD x (t_seen T cell)))), (0, .ref (o)), (1, .ref (po)), (2, .int (iI (cell))), (3, .int (iI (x))), (4, .int (iI (y))), (5, .int (iI (z)))] dX2_come_142 hl (by decide) rfl (fun ls hl => ?_)
              have hwl : tWay T y z = 1 := by unfold tWay tWith; (repeat' split) <;> omega
              have hil : tInn P T cell y z = 1 := by unfold tInn tWith; (repeat' split) <;> omega
              exact hloop144 8 0 (bD x (t_seen T cell)) 1 1 _ (by omega) (by omega) (by omega) (by assumption) (by unfold tCome; rw [if_neg (by assumption), hwl, hil]) _ _ ls hW (lv_sub hl [7, 9, 11, 12, 6, 2, 1, 0] rfl)
      · exact absurd hc43 (by omega)
  · skip
    have hE : tCome P cell x y z T = T := if_pos (by omega)
    exact MW_vret C hAe hrt hlk hW dX2_come_17 rfl (by rw [hE])

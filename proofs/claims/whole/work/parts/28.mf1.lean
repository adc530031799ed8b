set_option maxHeartbeats 4000000 in
set_option maxRecDepth 100000 in
theorem c_X4_refused (l : Launch) (g : GG) (o : Nat) (ma : Nat → Nat) (M : Mf) (w : Int) (hM : fOk M) (hw : rg w) : MW l g yX4_refused cX4_refused 2 (some .int) 0 0 [.ref (o), .int (iI (w))] (fW g o ma M) (fW g o ma (fRef w M)) (some (.int (iI (w)))) := by
  refine MW_start (by decide) (Nat.le_of_ble_eq_true rfl) ?_
  intro zp ze zs zm zb zt zc A hAe C hrt hlk hW ls hl
  have hA : ∀ q, zs.heap.size ≤ q → A q := fun q h => by rw [hAe]; exact Or.inr h
  have hl : lv_has ls 2 [(0, .ref (o)), (1, .int (iI (w)))] := hl
  obtain ⟨hM_now, hM_states, hM_timesBad, hM_timesNo, hM_timesFull⟩ := id hM
  refine r_iload_n C dX4_refused_0 hl 1 rfl ?_
  refine r_bipush (z := -2) C dX4_refused_1 rfl ?_
  refine r_icmp_ne C 19 dX4_refused_3 (by decide) (by omega) (by omega) (fun hc1 => ?_) (fun hc1 => ?_)
  · skip
    refine r_iload_n C dX4_refused_19 hl 1 rfl ?_
    refine r_bipush (z := -3) C dX4_refused_20 rfl ?_
    refine r_icmp_ne C 38 dX4_refused_22 (by decide) (by omega) (by omega) (fun hc2 => ?_) (fun hc2 => ?_)
    · skip
      refine r_aload_n C dX4_refused_38 hl 0 rfl ?_
      refine r_dup C rfl dX4_refused_39 ?_
      refine r_get (v := .int (iI (f_timesFull M))) C f_X4_49 hW.1 0 rfl rfl dX4_refused_40 ?_
      refine r_iconst (z := 1) C dX4_refused_43 rfl ?_
      refine r_iadd C dX4_refused_44 ?_
      refine r_put C f_X4_49 fp_4_8 hW (fW g o ma (fs_timesFull M ((f_timesFull M) + 1))) 0 rfl rfl rfl (Nat.le_of_ble_eq_true rfl) rfl dX4_refused_45 (fun H locs hW => ?_)
      refine r_iload_n C dX4_refused_48 hl 1 rfl ?_
      exact MW_iret C hAe hrt hlk hW dX4_refused_49 (iw rfl) (by unfold fRef; (repeat' split) <;> first | rfl | (exfalso; omega))
    · skip
      refine r_aload_n C dX4_refused_25 hl 0 rfl ?_
      refine r_dup C rfl dX4_refused_26 ?_
      refine r_get (v := .int (iI (f_timesNo M))) C f_X4_46 hW.1 0 rfl rfl dX4_refused_27 ?_
      refine r_iconst (z := 1) C dX4_refused_30 rfl ?_
      refine r_iadd C dX4_refused_31 ?_
      refine r_put C f_X4_46 fp_4_7 hW (fW g o ma (fs_timesNo M ((f_timesNo M) + 1))) 0 rfl rfl rfl (Nat.le_of_ble_eq_true rfl) rfl dX4_refused_32 (fun H locs hW => ?_)
      refine r_goto C 48 dX4_refused_35 (by decide) ?_
      refine r_iload_n C dX4_refused_48 hl 1 rfl ?_
      exact MW_iret C hAe hrt hlk hW dX4_refused_49 (iw rfl) (by unfold fRef; (repeat' split) <;> first | rfl | (exfalso; omega))
  · skip
    refine r_aload_n C dX4_refused_6 hl 0 rfl ?_
    refine r_dup C rfl dX4_refused_7 ?_
    refine r_get (v := .int (iI (f_timesBad M))) C f_X4_43 hW.1 0 rfl rfl dX4_refused_8 ?_
    refine r_iconst (z := 1) C dX4_refused_11 rfl ?_
    refine r_iadd C dX4_refused_12 ?_
    refine r_put C f_X4_43 fp_4_6 hW (fW g o ma (fs_timesBad M ((f_timesBad M) + 1))) 0 rfl rfl rfl (Nat.le_of_ble_eq_true rfl) rfl dX4_refused_13 (fun H locs hW => ?_)
    refine r_goto C 48 dX4_refused_16 (by decide) ?_
    refine r_iload_n C dX4_refused_48 hl 1 rfl ?_
    exact MW_iret C hAe hrt hlk hW dX4_refused_49 (iw rfl) (by unfold fRef; (repeat' split) <;> first | rfl | (exfalso; omega))
set_option maxHeartbeats 4000000 in
set_option maxRecDepth 100000 in
theorem c_X4_moveTo (l : Launch) (g : GG) (o : Nat) (ma : Nat → Nat) (M : Mf) (ta : Nat → Nat) (T : Tb) (sa : Nat → Nat) (U : Sp) (r : Int) : MW l g yX4_moveTo cX4_moveTo 2 none 0 0 [.ref (o), .int (iI (r))] (fW g o ma M ++ (tW g (ma 1) ta T ++ uW g (ma 2) sa U)) (fW g o ma (fs_now M r) ++ (tW g (ma 1) ta (ts_ready T 0) ++ uW g (ma 2) sa (us_ready U 0))) none := by
  refine MW_start (by decide) (Nat.le_of_ble_eq_true rfl) ?_
  intro zp ze zs zm zb zt zc A hAe C hrt hlk hW ls hl
  have hA : ∀ q, zs.heap.size ≤ q → A q := fun q h => by rw [hAe]; exact Or.inr h
  have hl : lv_has ls 2 [(0, .ref (o)), (1, .int (iI (r)))] := hl
  refine r_aload_n C dX4_moveTo_0 hl 0 rfl ?_
  refine r_iload_n C dX4_moveTo_1 hl 1 rfl ?_
  refine r_put C f_X4_15 fp_4_1 hW (fW g o ma (fs_now M r) ++ (tW g (ma 1) ta T ++ uW g (ma 2) sa U)) 0 rfl rfl rfl (Nat.le_of_ble_eq_true rfl) rfl dX4_moveTo_2 (fun H locs hW => ?_)
  refine r_aload_n C dX4_moveTo_5 hl 0 rfl ?_
  refine r_get (v := .ref (ma 1)) C f_X4_25 hW.1 0 rfl rfl dX4_moveTo_6 ?_
  refine r_iconst (z := 0) C dX4_moveTo_9 rfl ?_
  refine r_put C f_X4_211 fp_2_0 hW (fW g o ma (fs_now M r) ++ (tW g (ma 1) ta (ts_ready T 0) ++ uW g (ma 2) sa U)) 2 rfl (by decide) (by decide) (Nat.le_of_ble_eq_true rfl) rfl dX4_moveTo_10 (fun H locs hW => ?_)
  refine r_aload_n C dX4_moveTo_13 hl 0 rfl ?_
  refine r_get (v := .ref (ma 2)) C f_X4_32 hW.1 0 rfl rfl dX4_moveTo_14 ?_
  refine r_iconst (z := 0) C dX4_moveTo_17 rfl ?_
  refine r_put C f_X4_215 fp_1_0 hW (fW g o ma (fs_now M r) ++ (tW g (ma 1) ta (ts_ready T 0) ++ uW g (ma 2) sa (us_ready U 0))) 11 rfl (by decide) (by decide) (Nat.le_of_ble_eq_true rfl) rfl dX4_moveTo_18 (fun H locs hW => ?_)
  exact MW_vret C hAe hrt hlk hW dX4_moveTo_21 rfl rfl
set_option maxHeartbeats 4000000 in
set_option maxRecDepth 100000 in
theorem c_X4_settled (l : Launch) (g : GG) (o : Nat) (ma : Nat → Nat) (M : Mf) (ta : Nat → Nat) (T : Tb) (sa : Nat → Nat) (U : Sp) (w : Int) (hM : fOk M) (hw : rg w) : MW l g yX4_settled cX4_settled 2 (some .int) 1 40 [.ref (o), .int (iI (w))] (fW g o ma M ++ (tW g (ma 1) ta T ++ uW g (ma 2) sa U)) (fW g o ma (fSetM w M) ++ (tW g (ma 1) ta (fSetT w T) ++ uW g (ma 2) sa (fSetU w U))) (some (.int (iI (w)))) := by
  refine MW_start (by decide) (Nat.le_of_ble_eq_true rfl) ?_
  intro zp ze zs zm zb zt zc A hAe C hrt hlk hW ls hl
  have hA : ∀ q, zs.heap.size ≤ q → A q := fun q h => by rw [hAe]; exact Or.inr h
  have hl : lv_has ls 2 [(0, .ref (o)), (1, .int (iI (w)))] := hl
  obtain ⟨hM_now, hM_states, hM_timesBad, hM_timesNo, hM_timesFull⟩ := id hM
  refine r_iload_n C dX4_settled_0 hl 1 rfl ?_
  refine r_if_ge C 10 dX4_settled_1 (by decide) (by omega) (fun hc1 => ?_) (fun hc1 => ?_)
  · skip
    refine r_aload_n C dX4_settled_10 hl 0 rfl ?_
    refine r_aload_n C dX4_settled_11 hl 0 rfl ?_
    refine r_get (v := .int (iI (f_states M))) C f_X4_19 hW.1 0 rfl rfl dX4_settled_12 ?_
    refine r_iconst (z := 1) C dX4_settled_15 rfl ?_
    refine r_iadd C dX4_settled_16 ?_
    refine r_iconst (z := 5) C dX4_settled_17 rfl ?_
    refine r_min C hl.1 k_236 km_static k_8 km_code (by decide) (Nat.le_of_ble_eq_true rfl) (Nat.zero_le _) (Nat.zero_le _) (by omega) (by omega) dX4_settled_18 ?_
    refine r_put C f_X4_19 fp_4_2 hW (fW g o ma (fs_states M (min ((f_states M) + 1) 5)) ++ (tW g (ma 1) ta T ++ uW g (ma 2) sa U)) 0 rfl rfl rfl (Nat.le_of_ble_eq_true rfl) rfl dX4_settled_21 (fun H locs hW => ?_)
    refine r_aload_n C dX4_settled_24 hl 0 rfl ?_
    refine r_aload_n C dX4_settled_25 hl 0 rfl ?_
    refine r_get (v := .int (iI (f_now M))) C f_X4_15 hW.1 0 rfl rfl dX4_settled_26 ?_
    refine r_iconst (z := 1) C dX4_settled_29 rfl ?_
    refine r_iadd C dX4_settled_30 ?_
    refine r_bipush (z := 7) C dX4_settled_31 rfl ?_
    refine r_irem C (by omega) dX4_settled_33 ?_
    refine r_callW (rest := []) (r := none) (wr := []) (ws2 := fW g o ma (fs_now (fs_states M (min ((f_states M) + 1) 5)) (((f_now M) + 1) % 7)) ++ (tW g (ma 1) ta (ts_ready T 0) ++ uW g (ma 2) sa (us_ready U 0))) (st1 := []) C hl.1 hW hA (c_X4_moveTo l g o ma (fs_states M (min ((f_states M) + 1) 5))  ta T  sa U (((f_now M) + 1) % 7)) v_X4_185 rfl [0, 1, 2, 3, 4, 5, 6, 7, 8, 9, 10, 11, 12] [] [0, 1, 2, 3, 4, 5, 6, 7, 8, 9, 10, 11, 12] rfl rfl (by decide) (by decide) rfl rfl 0 rfl rfl rfl (by decide) (by decide) (Nat.le_of_ble_eq_true rfl) dX4_settled_34 rfl rfl (fun H locs hW => ?_)
    refine r_iload_n C dX4_settled_37 hl 1 rfl ?_
    exact MW_iret C hAe hrt hlk hW dX4_settled_38 (iw rfl) (by unfold fSetM fSetT fSetU; rw [if_neg (by omega), if_neg (by omega), if_neg (by omega)])
  · skip
    refine r_aload_n C dX4_settled_4 hl 0 rfl ?_
    refine r_iload_n C dX4_settled_5 hl 1 rfl ?_
    refine r_callW (rest := []) (r := some (.int (iI (w)))) (wr := tW g (ma 1) ta T ++ uW g (ma 2) sa U) (ws2 := fW g o ma (fRef w M) ++ (tW g (ma 1) ta T ++ uW g (ma 2) sa U)) (st1 := [.int (iI (w))]) C hl.1 hW hA (c_X4_refused l g o ma M w (by assumption) (show rg w by omega)) v_X4_90 rfl [0, 1] [2, 3, 4, 5, 6, 7, 8, 9, 10, 11, 12] [11, 12, 0, 1, 2, 3, 4, 5, 6, 7, 8, 9, 10] rfl rfl (by decide) (by decide) rfl rfl 0 rfl rfl rfl (by decide) (by decide) (Nat.le_of_ble_eq_true rfl) dX4_settled_6 rfl rfl (fun H locs hW => ?_)
    exact MW_iret C hAe hrt hlk hW dX4_settled_9 (iw rfl) (by unfold fSetM fSetT fSetU; rw [if_pos (by omega), if_pos (by omega), if_pos (by omega)])
set_option maxHeartbeats 4000000 in
set_option maxRecDepth 100000 in
theorem c_X4_draft (l : Launch) (g : GG) (o : Nat) (ma : Nat → Nat) (M : Mf) (p0 : Nat) (a0 : Nat → Nat) (P0 : Pg) (p1 : Nat) (a1 : Nat → Nat) (P1 : Pg) (hM : fOk M) (hP0 : pOk P0) (hr0 : f_rows M (f_now M).toNat = some p0) (hr1 : f_rows M ((f_now M + 1) % 7).toNat = some p1) : MW l g yX4_draft cX4_draft 2 (some (.object "MatchedFlows$Program")) 2 61 [.ref (o)] (fW g o ma M ++ (pW g p0 a0 P0 ++ pW g p1 a1 P1)) (fW g o ma M ++ (pW g p0 a0 P0 ++ pW g p1 a1 (pCopy P0 P1))) (some (.ref (p1))) := by
  refine MW_start (by decide) (Nat.le_of_ble_eq_true rfl) ?_
  intro zp ze zs zm zb zt zc A hAe C hrt hlk hW ls hl
  have hA : ∀ q, zs.heap.size ≤ q → A q := fun q h => by rw [hAe]; exact Or.inr h
  have hl : lv_has ls 2 [(0, .ref (o))] := hl
  obtain ⟨hM_now, hM_states, hM_timesBad, hM_timesNo, hM_timesFull⟩ := id hM
  obtain ⟨hP0_procs, hP0_nodes, hP0_edges, hP0_start, hP0_entryOf, hP0_exitOf, hP0_procOf, hP0_kindOf, hP0_from, hP0_to, hP0_callee⟩ := id hP0
  refine r_aload_n C dX4_draft_0 hl 0 rfl ?_
  refine r_get (v := .ref (ma 0)) C f_X4_11 hW.1 0 rfl rfl dX4_draft_1 ?_
  refine r_aload_n C dX4_draft_4 hl 0 rfl ?_
  refine r_get (v := .int (iI (f_now M))) C f_X4_15 hW.1 0 rfl rfl dX4_draft_5 ?_
  refine r_iconst (z := 1) C dX4_draft_8 rfl ?_
  refine r_iadd C dX4_draft_9 ?_
  refine r_bipush (z := 7) C dX4_draft_10 rfl ?_
  refine r_irem C (by omega) dX4_draft_12 ?_
  refine r_aald (f := f_rows M) (b := p1) C hW.1 1 rfl (Nat.le_of_ble_eq_true rfl) (by omega) hr1 dX4_draft_13 ?_
  refine r_astore_n C [(1, .ref (p1)), (0, .ref (o))] dX4_draft_14 hl (by decide) rfl (fun ls hl => ?_)
  refine r_aload_n C dX4_draft_15 hl 0 rfl ?_
  refine r_aload_n C dX4_draft_16 hl 1 rfl ?_
  refine r_get (v := .ref (ma 0)) C f_X4_11 hW.1 0 rfl rfl dX4_draft_17 ?_
  refine r_aload_n C dX4_draft_20 hl 1 rfl ?_
  refine r_get (v := .int (iI (f_now M))) C f_X4_15 hW.1 0 rfl rfl dX4_draft_21 ?_
  refine r_aald (f := f_rows M) (b := p0) C hW.1 1 rfl (Nat.le_of_ble_eq_true rfl) (by omega) hr0 dX4_draft_24 ?_
  refine r_callW (rest := []) (r := none) (wr := fW g o ma M) (ws2 := fW g o ma M ++ (pW g p0 a0 P0 ++ pW g p1 a1 (ps_flow (ps_callee (ps_to (ps_from (ps_kindOf (ps_procOf (ps_exitOf (ps_entryOf (ps_start (ps_edges (ps_nodes (ps_procs P1 (p_procs P0)) (p_nodes P0)) (p_edges P0)) (p_start P0)) (cpI ((p_entryOf P0)) ((p_entryOf P1)) ((p_procs P0)))) (cpI ((p_exitOf P0)) ((p_exitOf P1)) ((p_procs P0)))) (cpI ((p_procOf P0)) ((p_procOf P1)) ((p_nodes P0)))) (cpI ((p_kindOf P0)) ((p_kindOf P1)) ((p_nodes P0)))) (cpI ((p_from P0)) ((p_from P1)) ((p_edges P0)))) (cpI ((p_to P0)) ((p_to P1)) ((p_edges P0)))) (cpI ((p_callee P0)) ((p_callee P1)) ((p_edges P0)))) (cpI ((p_flow P0)) ((p_flow P1)) ((p_edges P0) * 3))))) (st1 := []) C hl.1 hW hA (c_X0_copy l g p1 a1 P1 p0 a0 P0  (by assumption)) v_X4_203 rfl [11, 12, 13, 14, 15, 16, 17, 18, 19, 2, 3, 4, 5, 6, 7, 8, 9, 10] [0, 1] [0, 1, 11, 12, 13, 14, 15, 16, 17, 18, 19, 2, 3, 4, 5, 6, 7, 8, 9, 10] rfl rfl (by decide) (by decide) rfl rfl 0 rfl rfl rfl (by decide) (by decide) (Nat.le_of_ble_eq_true rfl) dX4_draft_25 rfl rfl (fun H locs hW => ?_)
  refine r_aload_n C dX4_draft_28 hl 0 rfl ?_
  exact MW_aret C hAe hrt ⟨_, rfl⟩ hlk hW dX4_draft_29 rfl rfl
set_option maxHeartbeats 4000000 in
set_option maxRecDepth 100000 in
theorem c_X4_proc (l : Launch) (g : GG) (o : Nat) (ma : Nat → Nat) (M : Mf) (ta : Nat → Nat) (T : Tb) (sa : Nat → Nat) (U : Sp) (xa : Nat → Nat) (X : Tx) (p0 : Nat) (a0 : Nat → Nat) (P0 : Pg) (p1 : Nat) (a1 : Nat → Nat) (P1 : Pg) (hM : fOk M) (hT : tOk T) (hU : uOk U) (hX : xOk X) (hP0 : pOk P0) (hP1 : pOk P1) (hr0 : f_rows M (f_now M).toNat = some p0) (hr1 : f_rows M ((f_now M + 1) % 7).toNat = some p1) : MW l g yX4_proc cX4_proc 1 (some .int) 3 82 [.ref (o)] (fW g o ma M ++ (tW g (ma 1) ta T ++ (uW g (ma 2) sa U ++ (xW g (ma 3) xa X ++ (pW g p0 a0 P0 ++ pW g p1 a1 P1))))) (fW g o ma (fSetM (pAddProc (pCopy P0 P1)).1 M) ++ (tW g (ma 1) ta (fSetT (pAddProc (pCopy P0 P1)).1 T) ++ (uW g (ma 2) sa (fSetU (pAddProc (pCopy P0 P1)).1 U) ++ (xW g (ma 3) xa X ++ (pW g p0 a0 P0 ++ pW g p1 a1 ((pAddProc (pCopy P0 P1)).2)))))) (some (.int (iI ((pAddProc (pCopy P0 P1)).1)))) := by
  refine MW_start (by decide) (Nat.le_of_ble_eq_true rfl) ?_
  intro zp ze zs zm zb zt zc A hAe C hrt hlk hW ls hl
  have hA : ∀ q, zs.heap.size ≤ q → A q := fun q h => by rw [hAe]; exact Or.inr h
  have hl : lv_has ls 1 [(0, .ref (o))] := hl
  obtain ⟨hM_now, hM_states, hM_timesBad, hM_timesNo, hM_timesFull⟩ := id hM
  obtain ⟨hT_ready, hT_seedProc, hT_seedFacts, hT_size, hT_seen, hT_keys, hT_placeOf, hT_before, hT_through, hT_way, hT_inner, hT_sites, hT_siteCount⟩ := id hT
  obtain ⟨hU_ready, hU_reached⟩ := id hU
  obtain ⟨hX_length, hX_orders, hX_bytes, hX_parts, hX_place⟩ := id hX
  obtain ⟨hP0_procs, hP0_nodes, hP0_edges, hP0_start, hP0_entryOf, hP0_exitOf, hP0_procOf, hP0_kindOf, hP0_from, hP0_to, hP0_callee⟩ := id hP0
  obtain ⟨hP1_procs, hP1_nodes, hP1_edges, hP1_start, hP1_entryOf, hP1_exitOf, hP1_procOf, hP1_kindOf, hP1_from, hP1_to, hP1_callee⟩ := id hP1
  refine r_aload_n C dX4_proc_0 hl 0 rfl ?_
  refine r_aload_n C dX4_proc_1 hl 0 rfl ?_
  refine r_callW (rest := [.ref (o)]) (r := some (.ref (p1))) (wr := tW g (ma 1) ta T ++ (uW g (ma 2) sa U ++ xW g (ma 3) xa X)) (ws2 := fW g o ma M ++ (tW g (ma 1) ta T ++ (uW g (ma 2) sa U ++ (xW g (ma 3) xa X ++ (pW g p0 a0 P0 ++ pW g p1 a1 (pCopy P0 P1)))))) (st1 := [.ref (p1), .ref (o)]) C hl.1 hW hA (c_X4_draft l g o ma M p0 a0 P0 p1 a1 P1  (by assumption) (by assumption) (by assumption) (by assumption)) v_X4_57 rfl [0, 1, 16, 17, 18, 19, 20, 21, 22, 23, 24, 25, 26, 27, 28, 29, 30, 31, 32, 33] [2, 3, 4, 5, 6, 7, 8, 9, 10, 11, 12, 13, 14, 15] [14, 15, 0, 1, 2, 3, 4, 5, 6, 7, 8, 9, 10, 11, 12, 13, 16, 17, 18, 19, 20, 21, 22, 23, 24, 25, 26, 27, 28, 29, 30, 31, 32, 33] rfl rfl (by decide) (by decide) rfl rfl 0 rfl rfl rfl (by decide) (by decide) (Nat.le_of_ble_eq_true rfl) dX4_proc_2 rfl rfl (fun H locs hW => ?_)
  have hD : pOk (pCopy P0 P1) := pCopy_ok hP0 hP1
  refine r_callW (rest := [.ref (o)]) (r := some (.int (iI ((pAddProc (pCopy P0 P1)).1)))) (wr := fW g o ma M ++ (tW g (ma 1) ta T ++ (uW g (ma 2) sa U ++ (xW g (ma 3) xa X ++ pW g p0 a0 P0)))) (ws2 := fW g o ma M ++ (tW g (ma 1) ta T ++ (uW g (ma 2) sa U ++ (xW g (ma 3) xa X ++ (pW g p0 a0 P0 ++ pW g p1 a1 ((pAddProc (pCopy P0 P1)).2)))))) (st1 := [.int (iI ((pAddProc (pCopy P0 P1)).1)), .ref (o)]) C hl.1 hW hA (c_X0_addProc l g p1 a1 (pCopy P0 P1)  (by assumption)) v_X4_53 rfl [25, 26, 27, 28, 29, 30, 31, 32, 33] [0, 1, 2, 3, 4, 5, 6, 7, 8, 9, 10, 11, 12, 13, 14, 15, 16, 17, 18, 19, 20, 21, 22, 23, 24] [0, 1, 2, 3, 4, 5, 6, 7, 8, 9, 10, 11, 12, 13, 14, 15, 16, 17, 18, 19, 20, 21, 22, 23, 24, 25, 26, 27, 28, 29, 30, 31, 32, 33] rfl rfl (by decide) (by decide) rfl rfl 0 rfl rfl rfl (by decide) (by decide) (Nat.le_of_ble_eq_true rfl) dX4_proc_5 rfl rfl (fun H locs hW => ?_)
  have hrgA : rg (pAddProc (pCopy P0 P1)).1 := pAddProc_a hD
  refine r_callW (rest := []) (r := some (.int (iI (((pAddProc (pCopy P0 P1)).1))))) (wr := xW g (ma 3) xa X ++ (pW g p0 a0 P0 ++ pW g p1 a1 ((pAddProc (pCopy P0 P1)).2))) (ws2 := fW g o ma (fSetM ((pAddProc (pCopy P0 P1)).1) M) ++ (tW g (ma 1) ta (fSetT ((pAddProc (pCopy P0 P1)).1) T) ++ (uW g (ma 2) sa (fSetU ((pAddProc (pCopy P0 P1)).1) U) ++ (xW g (ma 3) xa X ++ (pW g p0 a0 P0 ++ pW g p1 a1 ((pAddProc (pCopy P0 P1)).2)))))) (st1 := [.int (iI (((pAddProc (pCopy P0 P1)).1)))]) C hl.1 hW hA (c_X4_settled l g o ma M  ta T  sa U ((pAddProc (pCopy P0 P1)).1) (by assumption) (show rg ((pAddProc (pCopy P0 P1)).1) by omega)) v_X4_61 rfl [0, 1, 2, 3, 4, 5, 6, 7, 8, 9, 10, 11, 12] [13, 14, 15, 16, 17, 18, 19, 20, 21, 22, 23, 24, 25, 26, 27, 28, 29, 30, 31, 32, 33] [21, 22, 23, 24, 25, 26, 27, 28, 29, 30, 31, 32, 33, 0, 1, 2, 3, 4, 5, 6, 7, 8, 9, 10, 11, 12, 13, 14, 15, 16, 17, 18, 19, 20] rfl rfl (by decide) (by decide) rfl rfl 0 rfl rfl rfl (by decide) (by decide) (Nat.le_of_ble_eq_true rfl) dX4_proc_8 rfl rfl (fun H locs hW => ?_)
  exact MW_iret C hAe hrt hlk hW dX4_proc_11 (iw rfl) rfl
set_option maxHeartbeats 4000000 in
set_option maxRecDepth 100000 in
theorem c_X4_node (l : Launch) (g : GG) (o : Nat) (ma : Nat → Nat) (M : Mf) (ta : Nat → Nat) (T : Tb) (sa : Nat → Nat) (U : Sp) (xa : Nat → Nat) (X : Tx) (p0 : Nat) (a0 : Nat → Nat) (P0 : Pg) (p1 : Nat) (a1 : Nat → Nat) (P1 : Pg) (n : Int) (hM : fOk M) (hT : tOk T) (hU : uOk U) (hX : xOk X) (hP0 : pOk P0) (hP1 : pOk P1) (hr0 : f_rows M (f_now M).toNat = some p0) (hr1 : f_rows M ((f_now M + 1) % 7).toNat = some p1) (h_n : rg n) : MW l g yX4_node cX4_node 2 (some .int) 3 82 [.ref (o), .int (iI (n))] (fW g o ma M ++ (tW g (ma 1) ta T ++ (uW g (ma 2) sa U ++ (xW g (ma 3) xa X ++ (pW g p0 a0 P0 ++ pW g p1 a1 P1))))) (fW g o ma (fSetM (pAddNode (pCopy P0 P1) n).1 M) ++ (tW g (ma 1) ta (fSetT (pAddNode (pCopy P0 P1) n).1 T) ++ (uW g (ma 2) sa (fSetU (pAddNode (pCopy P0 P1) n).1 U) ++ (xW g (ma 3) xa X ++ (pW g p0 a0 P0 ++ pW g p1 a1 ((pAddNode (pCopy P0 P1) n).2)))))) (some (.int (iI ((pAddNode (pCopy P0 P1) n).1)))) := by
  refine MW_start (by decide) (Nat.le_of_ble_eq_true rfl) ?_
  intro zp ze zs zm zb zt zc A hAe C hrt hlk hW ls hl
  have hA : ∀ q, zs.heap.size ≤ q → A q := fun q h => by rw [hAe]; exact Or.inr h
  have hl : lv_has ls 2 [(0, .ref (o)), (1, .int (iI (n)))] := hl
  obtain ⟨hM_now, hM_states, hM_timesBad, hM_timesNo, hM_timesFull⟩ := id hM
  obtain ⟨hT_ready, hT_seedProc, hT_seedFacts, hT_size, hT_seen, hT_keys, hT_placeOf, hT_before, hT_through, hT_way, hT_inner, hT_sites, hT_siteCount⟩ := id hT
  obtain ⟨hU_ready, hU_reached⟩ := id hU
  obtain ⟨hX_length, hX_orders, hX_bytes, hX_parts, hX_place⟩ := id hX
  obtain ⟨hP0_procs, hP0_nodes, hP0_edges, hP0_start, hP0_entryOf, hP0_exitOf, hP0_procOf, hP0_kindOf, hP0_from, hP0_to, hP0_callee⟩ := id hP0
  obtain ⟨hP1_procs, hP1_nodes, hP1_edges, hP1_start, hP1_entryOf, hP1_exitOf, hP1_procOf, hP1_kindOf, hP1_from, hP1_to, hP1_callee⟩ := id hP1
  refine r_aload_n C dX4_node_0 hl 0 rfl ?_
  refine r_aload_n C dX4_node_1 hl 0 rfl ?_
  refine r_callW (rest := [.ref (o)]) (r := some (.ref (p1))) (wr := tW g (ma 1) ta T ++ (uW g (ma 2) sa U ++ xW g (ma 3) xa X)) (ws2 := fW g o ma M ++ (tW g (ma 1) ta T ++ (uW g (ma 2) sa U ++ (xW g (ma 3) xa X ++ (pW g p0 a0 P0 ++ pW g p1 a1 (pCopy P0 P1)))))) (st1 := [.ref (p1), .ref (o)]) C hl.1 hW hA (c_X4_draft l g o ma M p0 a0 P0 p1 a1 P1  (by assumption) (by assumption) (by assumption) (by assumption)) v_X4_57 rfl [0, 1, 16, 17, 18, 19, 20, 21, 22, 23, 24, 25, 26, 27, 28, 29, 30, 31, 32, 33] [2, 3, 4, 5, 6, 7, 8, 9, 10, 11, 12, 13, 14, 15] [14, 15, 0, 1, 2, 3, 4, 5, 6, 7, 8, 9, 10, 11, 12, 13, 16, 17, 18, 19, 20, 21, 22, 23, 24, 25, 26, 27, 28, 29, 30, 31, 32, 33] rfl rfl (by decide) (by decide) rfl rfl 0 rfl rfl rfl (by decide) (by decide) (Nat.le_of_ble_eq_true rfl) dX4_node_2 rfl rfl (fun H locs hW => ?_)
  have hD : pOk (pCopy P0 P1) := pCopy_ok hP0 hP1
  refine r_iload_n C dX4_node_5 hl 1 rfl ?_
  refine r_callW (rest := [.ref (o)]) (r := some (.int (iI ((pAddNode (pCopy P0 P1) n).1)))) (wr := fW g o ma M ++ (tW g (ma 1) ta T ++ (uW g (ma 2) sa U ++ (xW g (ma 3) xa X ++ pW g p0 a0 P0)))) (ws2 := fW g o ma M ++ (tW g (ma 1) ta T ++ (uW g (ma 2) sa U ++ (xW g (ma 3) xa X ++ (pW g p0 a0 P0 ++ pW g p1 a1 ((pAddNode (pCopy P0 P1) n).2)))))) (st1 := [.int (iI ((pAddNode (pCopy P0 P1) n).1)), .ref (o)]) C hl.1 hW hA (c_X0_addNode l g p1 a1 (pCopy P0 P1) n (by assumption) (show rg n by omega)) v_X4_65 rfl [25, 26, 27, 28, 29, 30, 31, 32, 33] [0, 1, 2, 3, 4, 5, 6, 7, 8, 9, 10, 11, 12, 13, 14, 15, 16, 17, 18, 19, 20, 21, 22, 23, 24] [0, 1, 2, 3, 4, 5, 6, 7, 8, 9, 10, 11, 12, 13, 14, 15, 16, 17, 18, 19, 20, 21, 22, 23, 24, 25, 26, 27, 28, 29, 30, 31, 32, 33] rfl rfl (by decide) (by decide) rfl rfl 0 rfl rfl rfl (by decide) (by decide) (Nat.le_of_ble_eq_true rfl) dX4_node_6 rfl rfl (fun H locs hW => ?_)
  have hrgA : rg (pAddNode (pCopy P0 P1) n).1 := pAddNode_a hD
  refine r_callW (rest := []) (r := some (.int (iI (((pAddNode (pCopy P0 P1) n).1))))) (wr := xW g (ma 3) xa X ++ (pW g p0 a0 P0 ++ pW g p1 a1 ((pAddNode (pCopy P0 P1) n).2))) (ws2 := fW g o ma (fSetM ((pAddNode (pCopy P0 P1) n).1) M) ++ (tW g (ma 1) ta (fSetT ((pAddNode (pCopy P0 P1) n).1) T) ++ (uW g (ma 2) sa (fSetU ((pAddNode (pCopy P0 P1) n).1) U) ++ (xW g (ma 3) xa X ++ (pW g p0 a0 P0 ++ pW g p1 a1 ((pAddNode (pCopy P0 P1) n).2)))))) (st1 := [.int (iI (((pAddNode (pCopy P0 P1) n).1)))]) C hl.1 hW hA (c_X4_settled l g o ma M  ta T  sa U ((pAddNode (pCopy P0 P1) n).1) (by assumption) (show rg ((pAddNode (pCopy P0 P1) n).1) by omega)) v_X4_61 rfl [0, 1, 2, 3, 4, 5, 6, 7, 8, 9, 10, 11, 12] [13, 14, 15, 16, 17, 18, 19, 20, 21, 22, 23, 24, 25, 26, 27, 28, 29, 30, 31, 32, 33] [21, 22, 23, 24, 25, 26, 27, 28, 29, 30, 31, 32, 33, 0, 1, 2, 3, 4, 5, 6, 7, 8, 9, 10, 11, 12, 13, 14, 15, 16, 17, 18, 19, 20] rfl rfl (by decide) (by decide) rfl rfl 0 rfl rfl rfl (by decide) (by decide) (Nat.le_of_ble_eq_true rfl) dX4_node_9 rfl rfl (fun H locs hW => ?_)
  exact MW_iret C hAe hrt hlk hW dX4_node_12 (iw rfl) rfl
set_option maxHeartbeats 4000000 in
set_option maxRecDepth 100000 in
theorem c_X4_edge (l : Launch) (g : GG) (o : Nat) (ma : Nat → Nat) (M : Mf) (ta : Nat → Nat) (T : Tb) (sa : Nat → Nat) (U : Sp) (xa : Nat → Nat) (X : Tx) (p0 : Nat) (a0 : Nat → Nat) (P0 : Pg) (p1 : Nat) (a1 : Nat → Nat) (P1 : Pg) (n k : Int) (hM : fOk M) (hT : tOk T) (hU : uOk U) (hX : xOk X) (hP0 : pOk P0) (hP1 : pOk P1) (hr0 : f_rows M (f_now M).toNat = some p0) (hr1 : f_rows M ((f_now M + 1) % 7).toNat = some p1) (h_n : rg n) (h_k : rg k) : MW l g yX4_edge cX4_edge 3 (some .int) 3 82 [.ref (o), .int (iI (n)), .int (iI (k))] (fW g o ma M ++ (tW g (ma 1) ta T ++ (uW g (ma 2) sa U ++ (xW g (ma 3) xa X ++ (pW g p0 a0 P0 ++ pW g p1 a1 P1))))) (fW g o ma (fSetM (pAddPlain (pCopy P0 P1) n k).1 M) ++ (tW g (ma 1) ta (fSetT (pAddPlain (pCopy P0 P1) n k).1 T) ++ (uW g (ma 2) sa (fSetU (pAddPlain (pCopy P0 P1) n k).1 U) ++ (xW g (ma 3) xa X ++ (pW g p0 a0 P0 ++ pW g p1 a1 ((pAddPlain (pCopy P0 P1) n k).2)))))) (some (.int (iI ((pAddPlain (pCopy P0 P1) n k).1)))) := by
  refine MW_start (by decide) (Nat.le_of_ble_eq_true rfl) ?_
  intro zp ze zs zm zb zt zc A hAe C hrt hlk hW ls hl
  have hA : ∀ q, zs.heap.size ≤ q → A q := fun q h => by rw [hAe]; exact Or.inr h
  have hl : lv_has ls 3 [(0, .ref (o)), (1, .int (iI (n))), (2, .int (iI (k)))] := hl
  obtain ⟨hM_now, hM_states, hM_timesBad, hM_timesNo, hM_timesFull⟩ := id hM
  obtain ⟨hT_ready, hT_seedProc, hT_seedFacts, hT_size, hT_seen, hT_keys, hT_placeOf, hT_before, hT_through, hT_way, hT_inner, hT_sites, hT_siteCount⟩ := id hT
  obtain ⟨hU_ready, hU_reached⟩ := id hU
  obtain ⟨hX_length, hX_orders, hX_bytes, hX_parts, hX_place⟩ := id hX
  obtain ⟨hP0_procs, hP0_nodes, hP0_edges, hP0_start, hP0_entryOf, hP0_exitOf, hP0_procOf, hP0_kindOf, hP0_from, hP0_to, hP0_callee⟩ := id hP0
  obtain ⟨hP1_procs, hP1_nodes, hP1_edges, hP1_start, hP1_entryOf, hP1_exitOf, hP1_procOf, hP1_kindOf, hP1_from, hP1_to, hP1_callee⟩ := id hP1
  refine r_aload_n C dX4_edge_0 hl 0 rfl ?_
  refine r_aload_n C dX4_edge_1 hl 0 rfl ?_
  refine r_callW (rest := [.ref (o)]) (r := some (.ref (p1))) (wr := tW g (ma 1) ta T ++ (uW g (ma 2) sa U ++ xW g (ma 3) xa X)) (ws2 := fW g o ma M ++ (tW g (ma 1) ta T ++ (uW g (ma 2) sa U ++ (xW g (ma 3) xa X ++ (pW g p0 a0 P0 ++ pW g p1 a1 (pCopy P0 P1)))))) (st1 := [.ref (p1), .ref (o)]) C hl.1 hW hA (c_X4_draft l g o ma M p0 a0 P0 p1 a1 P1  (by assumption) (by assumption) (by assumption) (by assumption)) v_X4_57 rfl [0, 1, 16, 17, 18, 19, 20, 21, 22, 23, 24, 25, 26, 27, 28, 29, 30, 31, 32, 33] [2, 3, 4, 5, 6, 7, 8, 9, 10, 11, 12, 13, 14, 15] [14, 15, 0, 1, 2, 3, 4, 5, 6, 7, 8, 9, 10, 11, 12, 13, 16, 17, 18, 19, 20, 21, 22, 23, 24, 25, 26, 27, 28, 29, 30, 31, 32, 33] rfl rfl (by decide) (by decide) rfl rfl 0 rfl rfl rfl (by decide) (by decide) (Nat.le_of_ble_eq_true rfl) dX4_edge_2 rfl rfl (fun H locs hW => ?_)
  have hD : pOk (pCopy P0 P1) := pCopy_ok hP0 hP1
  refine r_iload_n C dX4_edge_5 hl 1 rfl ?_
  refine r_iload_n C dX4_edge_6 hl 2 rfl ?_
  refine r_callW (rest := [.ref (o)]) (r := some (.int (iI ((pAddPlain (pCopy P0 P1) n k).1)))) (wr := fW g o ma M ++ (tW g (ma 1) ta T ++ (uW g (ma 2) sa U ++ (xW g (ma 3) xa X ++ pW g p0 a0 P0)))) (ws2 := fW g o ma M ++ (tW g (ma 1) ta T ++ (uW g (ma 2) sa U ++ (xW g (ma 3) xa X ++ (pW g p0 a0 P0 ++ pW g p1 a1 ((pAddPlain (pCopy P0 P1) n k).2)))))) (st1 := [.int (iI ((pAddPlain (pCopy P0 P1) n k).1)), .ref (o)]) C hl.1 hW hA (c_X0_addPlain l g p1 a1 (pCopy P0 P1) n k (by assumption) (show rg n by omega) (show rg k by omega)) v_X4_68 rfl [25, 26, 27, 28, 29, 30, 31, 32, 33] [0, 1, 2, 3, 4, 5, 6, 7, 8, 9, 10, 11, 12, 13, 14, 15, 16, 17, 18, 19, 20, 21, 22, 23, 24] [0, 1, 2, 3, 4, 5, 6, 7, 8, 9, 10, 11, 12, 13, 14, 15, 16, 17, 18, 19, 20, 21, 22, 23, 24, 25, 26, 27, 28, 29, 30, 31, 32, 33] rfl rfl (by decide) (by decide) rfl rfl 0 rfl rfl rfl (by decide) (by decide) (Nat.le_of_ble_eq_true rfl) dX4_edge_7 rfl rfl (fun H locs hW => ?_)
  have hrgA : rg (pAddPlain (pCopy P0 P1) n k).1 := pAddPlain_a hD
  refine r_callW (rest := []) (r := some (.int (iI (((pAddPlain (pCopy P0 P1) n k).1))))) (wr := xW g (ma 3) xa X ++ (pW g p0 a0 P0 ++ pW g p1 a1 ((pAddPlain (pCopy P0 P1) n k).2))) (ws2 := fW g o ma (fSetM ((pAddPlain (pCopy P0 P1) n k).1) M) ++ (tW g (ma 1) ta (fSetT ((pAddPlain (pCopy P0 P1) n k).1) T) ++ (uW g (ma 2) sa (fSetU ((pAddPlain (pCopy P0 P1) n k).1) U) ++ (xW g (ma 3) xa X ++ (pW g p0 a0 P0 ++ pW g p1 a1 ((pAddPlain (pCopy P0 P1) n k).2)))))) (st1 := [.int (iI (((pAddPlain (pCopy P0 P1) n k).1)))]) C hl.1 hW hA (c_X4_settled l g o ma M  ta T  sa U ((pAddPlain (pCopy P0 P1) n k).1) (by assumption) (show rg ((pAddPlain (pCopy P0 P1) n k).1) by omega)) v_X4_61 rfl [0, 1, 2, 3, 4, 5, 6, 7, 8, 9, 10, 11, 12] [13, 14, 15, 16, 17, 18, 19, 20, 21, 22, 23, 24, 25, 26, 27, 28, 29, 30, 31, 32, 33] [21, 22, 23, 24, 25, 26, 27, 28, 29, 30, 31, 32, 33, 0, 1, 2, 3, 4, 5, 6, 7, 8, 9, 10, 11, 12, 13, 14, 15, 16, 17, 18, 19, 20] rfl rfl (by decide) (by decide) rfl rfl 0 rfl rfl rfl (by decide) (by decide) (Nat.le_of_ble_eq_true rfl) dX4_edge_10 rfl rfl (fun H locs hW => ?_)
  exact MW_iret C hAe hrt hlk hW dX4_edge_13 (iw rfl) rfl
set_option maxHeartbeats 4000000 in
set_option maxRecDepth 100000 in
theorem c_X4_call (l : Launch) (g : GG) (o : Nat) (ma : Nat → Nat) (M : Mf) (ta : Nat → Nat) (T : Tb) (sa : Nat → Nat) (U : Sp) (xa : Nat → Nat) (X : Tx) (p0 : Nat) (a0 : Nat → Nat) (P0 : Pg) (p1 : Nat) (a1 : Nat → Nat) (P1 : Pg) (n q k : Int) (hM : fOk M) (hT : tOk T) (hU : uOk U) (hX : xOk X) (hP0 : pOk P0) (hP1 : pOk P1) (hr0 : f_rows M (f_now M).toNat = some p0) (hr1 : f_rows M ((f_now M + 1) % 7).toNat = some p1) (h_n : rg n) (h_q : rg q) (h_k : rg k) : MW l g yX4_call cX4_call 4 (some .int) 3 82 [.ref (o), .int (iI (n)), .int (iI (q)), .int (iI (k))] (fW g o ma M ++ (tW g (ma 1) ta T ++ (uW g (ma 2) sa U ++ (xW g (ma 3) xa X ++ (pW g p0 a0 P0 ++ pW g p1 a1 P1))))) (fW g o ma (fSetM (pAddCall (pCopy P0 P1) n q k).1 M) ++ (tW g (ma 1) ta (fSetT (pAddCall (pCopy P0 P1) n q k).1 T) ++ (uW g (ma 2) sa (fSetU (pAddCall (pCopy P0 P1) n q k).1 U) ++ (xW g (ma 3) xa X ++ (pW g p0 a0 P0 ++ pW g p1 a1 ((pAddCall (pCopy P0 P1) n q k).2)))))) (some (.int (iI ((pAddCall (pCopy P0 P1) n q k).1)))) := by
  refine MW_start (by decide) (Nat.le_of_ble_eq_true rfl) ?_
  intro zp ze zs zm zb zt zc A hAe C hrt hlk hW ls hl
  have hA : ∀ q, zs.heap.size ≤ q → A q := fun q h => by rw [hAe]; exact Or.inr h
  have hl : lv_has ls 4 [(0, .ref (o)), (1, .int (iI (n))), (2, .int (iI (q))), (3, .int (iI (k)))] := hl
  obtain ⟨hM_now, hM_states, hM_timesBad, hM_timesNo, hM_timesFull⟩ := id hM
  obtain ⟨hT_ready, hT_seedProc, hT_seedFacts, hT_size, hT_seen, hT_keys, hT_placeOf, hT_before, hT_through, hT_way, hT_inner, hT_sites, hT_siteCount⟩ := id hT
  obtain ⟨hU_ready, hU_reached⟩ := id hU
  obtain ⟨hX_length, hX_orders, hX_bytes, hX_parts, hX_place⟩ := id hX
  obtain ⟨hP0_procs, hP0_nodes, hP0_edges, hP0_start, hP0_entryOf, hP0_exitOf, hP0_procOf, hP0_kindOf, hP0_from, hP0_to, hP0_callee⟩ := id hP0
  obtain ⟨hP1_procs, hP1_nodes, hP1_edges, hP1_start, hP1_entryOf, hP1_exitOf, hP1_procOf, hP1_kindOf, hP1_from, hP1_to, hP1_callee⟩ := id hP1
  refine r_aload_n C dX4_call_0 hl 0 rfl ?_
  refine r_aload_n C dX4_call_1 hl 0 rfl ?_
  refine r_callW (rest := [.ref (o)]) (r := some (.ref (p1))) (wr := tW g (ma 1) ta T ++ (uW g (ma 2) sa U ++ xW g (ma 3) xa X)) (ws2 := fW g o ma M ++ (tW g (ma 1) ta T ++ (uW g (ma 2) sa U ++ (xW g (ma 3) xa X ++ (pW g p0 a0 P0 ++ pW g p1 a1 (pCopy P0 P1)))))) (st1 := [.ref (p1), .ref (o)]) C hl.1 hW hA (c_X4_draft l g o ma M p0 a0 P0 p1 a1 P1  (by assumption) (by assumption) (by assumption) (by assumption)) v_X4_57 rfl [0, 1, 16, 17, 18, 19, 20, 21, 22, 23, 24, 25, 26, 27, 28, 29, 30, 31, 32, 33] [2, 3, 4, 5, 6, 7, 8, 9, 10, 11, 12, 13, 14, 15] [14, 15, 0, 1, 2, 3, 4, 5, 6, 7, 8, 9, 10, 11, 12, 13, 16, 17, 18, 19, 20, 21, 22, 23, 24, 25, 26, 27, 28, 29, 30, 31, 32, 33] rfl rfl (by decide) (by decide) rfl rfl 0 rfl rfl rfl (by decide) (by decide) (Nat.le_of_ble_eq_true rfl) dX4_call_2 rfl rfl (fun H locs hW => ?_)
  have hD : pOk (pCopy P0 P1) := pCopy_ok hP0 hP1
  refine r_iload_n C dX4_call_5 hl 1 rfl ?_
  refine r_iload_n C dX4_call_6 hl 2 rfl ?_
  refine r_iload_n C dX4_call_7 hl 3 rfl ?_
  refine r_callW (rest := [.ref (o)]) (r := some (.int (iI ((pAddCall (pCopy P0 P1) n q k).1)))) (wr := fW g o ma M ++ (tW g (ma 1) ta T ++ (uW g (ma 2) sa U ++ (xW g (ma 3) xa X ++ pW g p0 a0 P0)))) (ws2 := fW g o ma M ++ (tW g (ma 1) ta T ++ (uW g (ma 2) sa U ++ (xW g (ma 3) xa X ++ (pW g p0 a0 P0 ++ pW g p1 a1 ((pAddCall (pCopy P0 P1) n q k).2)))))) (st1 := [.int (iI ((pAddCall (pCopy P0 P1) n q k).1)), .ref (o)]) C hl.1 hW hA (c_X0_addCall l g p1 a1 (pCopy P0 P1) n q k (by assumption) (show rg n by omega) (show rg q by omega) (show rg k by omega)) v_X4_72 rfl [25, 26, 27, 28, 29, 30, 31, 32, 33] [0, 1, 2, 3, 4, 5, 6, 7, 8, 9, 10, 11, 12, 13, 14, 15, 16, 17, 18, 19, 20, 21, 22, 23, 24] [0, 1, 2, 3, 4, 5, 6, 7, 8, 9, 10, 11, 12, 13, 14, 15, 16, 17, 18, 19, 20, 21, 22, 23, 24, 25, 26, 27, 28, 29, 30, 31, 32, 33] rfl rfl (by decide) (by decide) rfl rfl 0 rfl rfl rfl (by decide) (by decide) (Nat.le_of_ble_eq_true rfl) dX4_call_8 rfl rfl (fun H locs hW => ?_)
  have hrgA : rg (pAddCall (pCopy P0 P1) n q k).1 := pAddCall_a hD
  refine r_callW (rest := []) (r := some (.int (iI (((pAddCall (pCopy P0 P1) n q k).1))))) (wr := xW g (ma 3) xa X ++ (pW g p0 a0 P0 ++ pW g p1 a1 ((pAddCall (pCopy P0 P1) n q k).2))) (ws2 := fW g o ma (fSetM ((pAddCall (pCopy P0 P1) n q k).1) M) ++ (tW g (ma 1) ta (fSetT ((pAddCall (pCopy P0 P1) n q k).1) T) ++ (uW g (ma 2) sa (fSetU ((pAddCall (pCopy P0 P1) n q k).1) U) ++ (xW g (ma 3) xa X ++ (pW g p0 a0 P0 ++ pW g p1 a1 ((pAddCall (pCopy P0 P1) n q k).2)))))) (st1 := [.int (iI (((pAddCall (pCopy P0 P1) n q k).1)))]) C hl.1 hW hA (c_X4_settled l g o ma M  ta T  sa U ((pAddCall (pCopy P0 P1) n q k).1) (by assumption) (show rg ((pAddCall (pCopy P0 P1) n q k).1) by omega)) v_X4_61 rfl [0, 1, 2, 3, 4, 5, 6, 7, 8, 9, 10, 11, 12] [13, 14, 15, 16, 17, 18, 19, 20, 21, 22, 23, 24, 25, 26, 27, 28, 29, 30, 31, 32, 33] [21, 22, 23, 24, 25, 26, 27, 28, 29, 30, 31, 32, 33, 0, 1, 2, 3, 4, 5, 6, 7, 8, 9, 10, 11, 12, 13, 14, 15, 16, 17, 18, 19, 20] rfl rfl (by decide) (by decide) rfl rfl 0 rfl rfl rfl (by decide) (by decide) (Nat.le_of_ble_eq_true rfl) dX4_call_11 rfl rfl (fun H locs hW => ?_)
  exact MW_iret C hAe hrt hlk hW dX4_call_14 (iw rfl) rfl
set_option maxHeartbeats 4000000 in
set_option maxRecDepth 100000 in
theorem c_X4_flows (l : Launch) (g : GG) (o : Nat) (ma : Nat → Nat) (M : Mf) (ta : Nat → Nat) (T : Tb) (sa : Nat → Nat) (U : Sp) (xa : Nat → Nat) (X : Tx) (p0 : Nat) (a0 : Nat → Nat) (P0 : Pg) (p1 : Nat) (a1 : Nat → Nat) (P1 : Pg) (e w a v : Int) (hM : fOk M) (hT : tOk T) (hU : uOk U) (hX : xOk X) (hP0 : pOk P0) (hP1 : pOk P1) (hr0 : f_rows M (f_now M).toNat = some p0) (hr1 : f_rows M ((f_now M + 1) % 7).toNat = some p1) (h_e : rg e) (h_w : rg w) (h_a : rg a) (h_v : rg v) : MW l g yX4_flows cX4_flows 5 (some .int) 3 82 [.ref (o), .int (iI (e)), .int (iI (w)), .int (iI (a)), .int (iI (v))] (fW g o ma M ++ (tW g (ma 1) ta T ++ (uW g (ma 2) sa U ++ (xW g (ma 3) xa X ++ (pW g p0 a0 P0 ++ pW g p1 a1 P1))))) (fW g o ma (fSetM (pSetFlow (pCopy P0 P1) e w a v).1 M) ++ (tW g (ma 1) ta (fSetT (pSetFlow (pCopy P0 P1) e w a v).1 T) ++ (uW g (ma 2) sa (fSetU (pSetFlow (pCopy P0 P1) e w a v).1 U) ++ (xW g (ma 3) xa X ++ (pW g p0 a0 P0 ++ pW g p1 a1 ((pSetFlow (pCopy P0 P1) e w a v).2)))))) (some (.int (iI ((pSetFlow (pCopy P0 P1) e w a v).1)))) := by
  refine MW_start (by decide) (Nat.le_of_ble_eq_true rfl) ?_
  intro zp ze zs zm zb zt zc A hAe C hrt hlk hW ls hl
  have hA : ∀ q, zs.heap.size ≤ q → A q := fun q h => by rw [hAe]; exact Or.inr h
  have hl : lv_has ls 5 [(0, .ref (o)), (1, .int (iI (e))), (2, .int (iI (w))), (3, .int (iI (a))), (4, .int (iI (v)))] := hl
  obtain ⟨hM_now, hM_states, hM_timesBad, hM_timesNo, hM_timesFull⟩ := id hM
  obtain ⟨hT_ready, hT_seedProc, hT_seedFacts, hT_size, hT_seen, hT_keys, hT_placeOf, hT_before, hT_through, hT_way, hT_inner, hT_sites, hT_siteCount⟩ := id hT
  obtain ⟨hU_ready, hU_reached⟩ := id hU
  obtain ⟨hX_length, hX_orders, hX_bytes, hX_parts, hX_place⟩ := id hX
  obtain ⟨hP0_procs, hP0_nodes, hP0_edges, hP0_start, hP0_entryOf, hP0_exitOf, hP0_procOf, hP0_kindOf, hP0_from, hP0_to, hP0_callee⟩ := id hP0
  obtain ⟨hP1_procs, hP1_nodes, hP1_edges, hP1_start, hP1_entryOf, hP1_exitOf, hP1_procOf, hP1_kindOf, hP1_from, hP1_to, hP1_callee⟩ := id hP1
  refine r_aload_n C dX4_flows_0 hl 0 rfl ?_
  refine r_aload_n C dX4_flows_1 hl 0 rfl ?_
  refine r_callW (rest := [.ref (o)]) (r := some (.ref (p1))) (wr := tW g (ma 1) ta T ++ (uW g (ma 2) sa U ++ xW g (ma 3) xa X)) (ws2 := fW g o ma M ++ (tW g (ma 1) ta T ++ (uW g (ma 2) sa U ++ (xW g (ma 3) xa X ++ (pW g p0 a0 P0 ++ pW g p1 a1 (pCopy P0 P1)))))) (st1 := [.ref (p1), .ref (o)]) C hl.1 hW hA (c_X4_draft l g o ma M p0 a0 P0 p1 a1 P1  (by assumption) (by assumption) (by assumption) (by assumption)) v_X4_57 rfl [0, 1, 16, 17, 18, 19, 20, 21, 22, 23, 24, 25, 26, 27, 28, 29, 30, 31, 32, 33] [2, 3, 4, 5, 6, 7, 8, 9, 10, 11, 12, 13, 14, 15] [14, 15, 0, 1, 2, 3, 4, 5, 6, 7, 8, 9, 10, 11, 12, 13, 16, 17, 18, 19, 20, 21, 22, 23, 24, 25, 26, 27, 28, 29, 30, 31, 32, 33] rfl rfl (by decide) (by decide) rfl rfl 0 rfl rfl rfl (by decide) (by decide) (Nat.le_of_ble_eq_true rfl) dX4_flows_2 rfl rfl (fun H locs hW => ?_)
  have hD : pOk (pCopy P0 P1) := pCopy_ok hP0 hP1
  refine r_iload_n C dX4_flows_5 hl 1 rfl ?_
  refine r_iload_n C dX4_flows_6 hl 2 rfl ?_
  refine r_iload_n C dX4_flows_7 hl 3 rfl ?_
  refine r_iload C dX4_flows_8 hl 4 rfl ?_
  refine r_callW (rest := [.ref (o)]) (r := some (.int (iI ((pSetFlow (pCopy P0 P1) e w a v).1)))) (wr := fW g o ma M ++ (tW g (ma 1) ta T ++ (uW g (ma 2) sa U ++ (xW g (ma 3) xa X ++ pW g p0 a0 P0)))) (ws2 := fW g o ma M ++ (tW g (ma 1) ta T ++ (uW g (ma 2) sa U ++ (xW g (ma 3) xa X ++ (pW g p0 a0 P0 ++ pW g p1 a1 ((pSetFlow (pCopy P0 P1) e w a v).2)))))) (st1 := [.int (iI ((pSetFlow (pCopy P0 P1) e w a v).1)), .ref (o)]) C hl.1 hW hA (c_X0_setFlow l g p1 a1 (pCopy P0 P1) e w a v (by assumption) (show rg e by omega) (show rg w by omega) (show rg a by omega) (show rg v by omega)) v_X4_76 rfl [25, 26, 27, 28, 29, 30, 31, 32, 33] [0, 1, 2, 3, 4, 5, 6, 7, 8, 9, 10, 11, 12, 13, 14, 15, 16, 17, 18, 19, 20, 21, 22, 23, 24] [0, 1, 2, 3, 4, 5, 6, 7, 8, 9, 10, 11, 12, 13, 14, 15, 16, 17, 18, 19, 20, 21, 22, 23, 24, 25, 26, 27, 28, 29, 30, 31, 32, 33] rfl rfl (by decide) (by decide) rfl rfl 0 rfl rfl rfl (by decide) (by decide) (Nat.le_of_ble_eq_true rfl) dX4_flows_10 rfl rfl (fun H locs hW => ?_)
  have hrgA : rg (pSetFlow (pCopy P0 P1) e w a v).1 := pSetFlow_a hD
  refine r_callW (rest := []) (r := some (.int (iI (((pSetFlow (pCopy P0 P1) e w a v).1))))) (wr := xW g (ma 3) xa X ++ (pW g p0 a0 P0 ++ pW g p1 a1 ((pSetFlow (pCopy P0 P1) e w a v).2))) (ws2 := fW g o ma (fSetM ((pSetFlow (pCopy P0 P1) e w a v).1) M) ++ (tW g (ma 1) ta (fSetT ((pSetFlow (pCopy P0 P1) e w a v).1) T) ++ (uW g (ma 2) sa (fSetU ((pSetFlow (pCopy P0 P1) e w a v).1) U) ++ (xW g (ma 3) xa X ++ (pW g p0 a0 P0 ++ pW g p1 a1 ((pSetFlow (pCopy P0 P1) e w a v).2)))))) (st1 := [.int (iI (((pSetFlow (pCopy P0 P1) e w a v).1)))]) C hl.1 hW hA (c_X4_settled l g o ma M  ta T  sa U ((pSetFlow (pCopy P0 P1) e w a v).1) (by assumption) (show rg ((pSetFlow (pCopy P0 P1) e w a v).1) by omega)) v_X4_61 rfl [0, 1, 2, 3, 4, 5, 6, 7, 8, 9, 10, 11, 12] [13, 14, 15, 16, 17, 18, 19, 20, 21, 22, 23, 24, 25, 26, 27, 28, 29, 30, 31, 32, 33] [21, 22, 23, 24, 25, 26, 27, 28, 29, 30, 31, 32, 33, 0, 1, 2, 3, 4, 5, 6, 7, 8, 9, 10, 11, 12, 13, 14, 15, 16, 17, 18, 19, 20] rfl rfl (by decide) (by decide) rfl rfl 0 rfl rfl rfl (by decide) (by decide) (Nat.le_of_ble_eq_true rfl) dX4_flows_13 rfl rfl (fun H locs hW => ?_)
  exact MW_iret C hAe hrt hlk hW dX4_flows_16 (iw rfl) rfl
set_option maxHeartbeats 4000000 in
set_option maxRecDepth 100000 in
theorem c_X4_starts (l : Launch) (g : GG) (o : Nat) (ma : Nat → Nat) (M : Mf) (ta : Nat → Nat) (T : Tb) (sa : Nat → Nat) (U : Sp) (xa : Nat → Nat) (X : Tx) (p0 : Nat) (a0 : Nat → Nat) (P0 : Pg) (p1 : Nat) (a1 : Nat → Nat) (P1 : Pg) (v : Int) (hM : fOk M) (hT : tOk T) (hU : uOk U) (hX : xOk X) (hP0 : pOk P0) (hP1 : pOk P1) (hr0 : f_rows M (f_now M).toNat = some p0) (hr1 : f_rows M ((f_now M + 1) % 7).toNat = some p1) (h_v : rg v) : MW l g yX4_starts cX4_starts 2 (some .int) 3 82 [.ref (o), .int (iI (v))] (fW g o ma M ++ (tW g (ma 1) ta T ++ (uW g (ma 2) sa U ++ (xW g (ma 3) xa X ++ (pW g p0 a0 P0 ++ pW g p1 a1 P1))))) (fW g o ma (fSetM (pSetStart (pCopy P0 P1) v).1 M) ++ (tW g (ma 1) ta (fSetT (pSetStart (pCopy P0 P1) v).1 T) ++ (uW g (ma 2) sa (fSetU (pSetStart (pCopy P0 P1) v).1 U) ++ (xW g (ma 3) xa X ++ (pW g p0 a0 P0 ++ pW g p1 a1 ((pSetStart (pCopy P0 P1) v).2)))))) (some (.int (iI ((pSetStart (pCopy P0 P1) v).1)))) := by
  refine MW_start (by decide) (Nat.le_of_ble_eq_true rfl) ?_
  intro zp ze zs zm zb zt zc A hAe C hrt hlk hW ls hl
  have hA : ∀ q, zs.heap.size ≤ q → A q := fun q h => by rw [hAe]; exact Or.inr h
  have hl : lv_has ls 2 [(0, .ref (o)), (1, .int (iI (v)))] := hl
  obtain ⟨hM_now, hM_states, hM_timesBad, hM_timesNo, hM_timesFull⟩ := id hM
  obtain ⟨hT_ready, hT_seedProc, hT_seedFacts, hT_size, hT_seen, hT_keys, hT_placeOf, hT_before, hT_through, hT_way, hT_inner, hT_sites, hT_siteCount⟩ := id hT
  obtain ⟨hU_ready, hU_reached⟩ := id hU
  obtain ⟨hX_length, hX_orders, hX_bytes, hX_parts, hX_place⟩ := id hX
  obtain ⟨hP0_procs, hP0_nodes, hP0_edges, hP0_start, hP0_entryOf, hP0_exitOf, hP0_procOf, hP0_kindOf, hP0_from, hP0_to, hP0_callee⟩ := id hP0
  obtain ⟨hP1_procs, hP1_nodes, hP1_edges, hP1_start, hP1_entryOf, hP1_exitOf, hP1_procOf, hP1_kindOf, hP1_from, hP1_to, hP1_callee⟩ := id hP1
  refine r_aload_n C dX4_starts_0 hl 0 rfl ?_
  refine r_aload_n C dX4_starts_1 hl 0 rfl ?_
  refine r_callW (rest := [.ref (o)]) (r := some (.ref (p1))) (wr := tW g (ma 1) ta T ++ (uW g (ma 2) sa U ++ xW g (ma 3) xa X)) (ws2 := fW g o ma M ++ (tW g (ma 1) ta T ++ (uW g (ma 2) sa U ++ (xW g (ma 3) xa X ++ (pW g p0 a0 P0 ++ pW g p1 a1 (pCopy P0 P1)))))) (st1 := [.ref (p1), .ref (o)]) C hl.1 hW hA (c_X4_draft l g o ma M p0 a0 P0 p1 a1 P1  (by assumption) (by assumption) (by assumption) (by assumption)) v_X4_57 rfl [0, 1, 16, 17, 18, 19, 20, 21, 22, 23, 24, 25, 26, 27, 28, 29, 30, 31, 32, 33] [2, 3, 4, 5, 6, 7, 8, 9, 10, 11, 12, 13, 14, 15] [14, 15, 0, 1, 2, 3, 4, 5, 6, 7, 8, 9, 10, 11, 12, 13, 16, 17, 18, 19, 20, 21, 22, 23, 24, 25, 26, 27, 28, 29, 30, 31, 32, 33] rfl rfl (by decide) (by decide) rfl rfl 0 rfl rfl rfl (by decide) (by decide) (Nat.le_of_ble_eq_true rfl) dX4_starts_2 rfl rfl (fun H locs hW => ?_)
  have hD : pOk (pCopy P0 P1) := pCopy_ok hP0 hP1
  refine r_iload_n C dX4_starts_5 hl 1 rfl ?_
  refine r_callW (rest := [.ref (o)]) (r := some (.int (iI ((pSetStart (pCopy P0 P1) v).1)))) (wr := fW g o ma M ++ (tW g (ma 1) ta T ++ (uW g (ma 2) sa U ++ (xW g (ma 3) xa X ++ pW g p0 a0 P0)))) (ws2 := fW g o ma M ++ (tW g (ma 1) ta T ++ (uW g (ma 2) sa U ++ (xW g (ma 3) xa X ++ (pW g p0 a0 P0 ++ pW g p1 a1 ((pSetStart (pCopy P0 P1) v).2)))))) (st1 := [.int (iI ((pSetStart (pCopy P0 P1) v).1)), .ref (o)]) C hl.1 hW hA (c_X0_setStart l g p1 a1 (pCopy P0 P1) v (by assumption) (show rg v by omega)) v_X4_80 rfl [25, 26, 27, 28, 29, 30, 31, 32, 33] [0, 1, 2, 3, 4, 5, 6, 7, 8, 9, 10, 11, 12, 13, 14, 15, 16, 17, 18, 19, 20, 21, 22, 23, 24] [0, 1, 2, 3, 4, 5, 6, 7, 8, 9, 10, 11, 12, 13, 14, 15, 16, 17, 18, 19, 20, 21, 22, 23, 24, 25, 26, 27, 28, 29, 30, 31, 32, 33] rfl rfl (by decide) (by decide) rfl rfl 0 rfl rfl rfl (by decide) (by decide) (Nat.le_of_ble_eq_true rfl) dX4_starts_6 rfl rfl (fun H locs hW => ?_)
  have hrgA : rg (pSetStart (pCopy P0 P1) v).1 := pSetStart_a hD
  refine r_callW (rest := []) (r := some (.int (iI (((pSetStart (pCopy P0 P1) v).1))))) (wr := xW g (ma 3) xa X ++ (pW g p0 a0 P0 ++ pW g p1 a1 ((pSetStart (pCopy P0 P1) v).2))) (ws2 := fW g o ma (fSetM ((pSetStart (pCopy P0 P1) v).1) M) ++ (tW g (ma 1) ta (fSetT ((pSetStart (pCopy P0 P1) v).1) T) ++ (uW g (ma 2) sa (fSetU ((pSetStart (pCopy P0 P1) v).1) U) ++ (xW g (ma 3) xa X ++ (pW g p0 a0 P0 ++ pW g p1 a1 ((pSetStart (pCopy P0 P1) v).2)))))) (st1 := [.int (iI (((pSetStart (pCopy P0 P1) v).1)))]) C hl.1 hW hA (c_X4_settled l g o ma M  ta T  sa U ((pSetStart (pCopy P0 P1) v).1) (by assumption) (show rg ((pSetStart (pCopy P0 P1) v).1) by omega)) v_X4_61 rfl [0, 1, 2, 3, 4, 5, 6, 7, 8, 9, 10, 11, 12] [13, 14, 15, 16, 17, 18, 19, 20, 21, 22, 23, 24, 25, 26, 27, 28, 29, 30, 31, 32, 33] [21, 22, 23, 24, 25, 26, 27, 28, 29, 30, 31, 32, 33, 0, 1, 2, 3, 4, 5, 6, 7, 8, 9, 10, 11, 12, 13, 14, 15, 16, 17, 18, 19, 20] rfl rfl (by decide) (by decide) rfl rfl 0 rfl rfl rfl (by decide) (by decide) (Nat.le_of_ble_eq_true rfl) dX4_starts_9 rfl rfl (fun H locs hW => ?_)
  exact MW_iret C hAe hrt hlk hW dX4_starts_12 (iw rfl) rfl
set_option maxHeartbeats 4000000 in
set_option maxRecDepth 100000 in
theorem c_X4_cuts (l : Launch) (g : GG) (o : Nat) (ma : Nat → Nat) (M : Mf) (ta : Nat → Nat) (T : Tb) (sa : Nat → Nat) (U : Sp) (xa : Nat → Nat) (X : Tx) (p0 : Nat) (a0 : Nat → Nat) (P0 : Pg) (p1 : Nat) (a1 : Nat → Nat) (P1 : Pg) (e : Int) (hM : fOk M) (hT : tOk T) (hU : uOk U) (hX : xOk X) (hP0 : pOk P0) (hP1 : pOk P1) (hr0 : f_rows M (f_now M).toNat = some p0) (hr1 : f_rows M ((f_now M + 1) % 7).toNat = some p1) (h_e : rg e) : MW l g yX4_cuts cX4_cuts 2 (some .int) 3 82 [.ref (o), .int (iI (e))] (fW g o ma M ++ (tW g (ma 1) ta T ++ (uW g (ma 2) sa U ++ (xW g (ma 3) xa X ++ (pW g p0 a0 P0 ++ pW g p1 a1 P1))))) (fW g o ma (fSetM (pCut (pCopy P0 P1) e).1 M) ++ (tW g (ma 1) ta (fSetT (pCut (pCopy P0 P1) e).1 T) ++ (uW g (ma 2) sa (fSetU (pCut (pCopy P0 P1) e).1 U) ++ (xW g (ma 3) xa X ++ (pW g p0 a0 P0 ++ pW g p1 a1 ((pCut (pCopy P0 P1) e).2)))))) (some (.int (iI ((pCut (pCopy P0 P1) e).1)))) := by
  refine MW_start (by decide) (Nat.le_of_ble_eq_true rfl) ?_
  intro zp ze zs zm zb zt zc A hAe C hrt hlk hW ls hl
  have hA : ∀ q, zs.heap.size ≤ q → A q := fun q h => by rw [hAe]; exact Or.inr h
  have hl : lv_has ls 2 [(0, .ref (o)), (1, .int (iI (e)))] := hl
  obtain ⟨hM_now, hM_states, hM_timesBad, hM_timesNo, hM_timesFull⟩ := id hM
  obtain ⟨hT_ready, hT_seedProc, hT_seedFacts, hT_size, hT_seen, hT_keys, hT_placeOf, hT_before, hT_through, hT_way, hT_inner, hT_sites, hT_siteCount⟩ := id hT
  obtain ⟨hU_ready, hU_reached⟩ := id hU
  obtain ⟨hX_length, hX_orders, hX_bytes, hX_parts, hX_place⟩ := id hX
  obtain ⟨hP0_procs, hP0_nodes, hP0_edges, hP0_start, hP0_entryOf, hP0_exitOf, hP0_procOf, hP0_kindOf, hP0_from, hP0_to, hP0_callee⟩ := id hP0
  obtain ⟨hP1_procs, hP1_nodes, hP1_edges, hP1_start, hP1_entryOf, hP1_exitOf, hP1_procOf, hP1_kindOf, hP1_from, hP1_to, hP1_callee⟩ := id hP1
  refine r_aload_n C dX4_cuts_0 hl 0 rfl ?_
  refine r_aload_n C dX4_cuts_1 hl 0 rfl ?_
  refine r_callW (rest := [.ref (o)]) (r := some (.ref (p1))) (wr := tW g (ma 1) ta T ++ (uW g (ma 2) sa U ++ xW g (ma 3) xa X)) (ws2 := fW g o ma M ++ (tW g (ma 1) ta T ++ (uW g (ma 2) sa U ++ (xW g (ma 3) xa X ++ (pW g p0 a0 P0 ++ pW g p1 a1 (pCopy P0 P1)))))) (st1 := [.ref (p1), .ref (o)]) C hl.1 hW hA (c_X4_draft l g o ma M p0 a0 P0 p1 a1 P1  (by assumption) (by assumption) (by assumption) (by assumption)) v_X4_57 rfl [0, 1, 16, 17, 18, 19, 20, 21, 22, 23, 24, 25, 26, 27, 28, 29, 30, 31, 32, 33] [2, 3, 4, 5, 6, 7, 8, 9, 10, 11, 12, 13, 14, 15] [14, 15, 0, 1, 2, 3, 4, 5, 6, 7, 8, 9, 10, 11, 12, 13, 16, 17, 18, 19, 20, 21, 22, 23, 24, 25, 26, 27, 28, 29, 30, 31, 32, 33] rfl rfl (by decide) (by decide) rfl rfl 0 rfl rfl rfl (by decide) (by decide) (Nat.le_of_ble_eq_true rfl) dX4_cuts_2 rfl rfl (fun H locs hW => ?_)
  have hD : pOk (pCopy P0 P1) := pCopy_ok hP0 hP1
  refine r_iload_n C dX4_cuts_5 hl 1 rfl ?_
  refine r_callW (rest := [.ref (o)]) (r := some (.int (iI ((pCut (pCopy P0 P1) e).1)))) (wr := fW g o ma M ++ (tW g (ma 1) ta T ++ (uW g (ma 2) sa U ++ (xW g (ma 3) xa X ++ pW g p0 a0 P0)))) (ws2 := fW g o ma M ++ (tW g (ma 1) ta T ++ (uW g (ma 2) sa U ++ (xW g (ma 3) xa X ++ (pW g p0 a0 P0 ++ pW g p1 a1 ((pCut (pCopy P0 P1) e).2)))))) (st1 := [.int (iI ((pCut (pCopy P0 P1) e).1)), .ref (o)]) C hl.1 hW hA (c_X0_cutEdge l g p1 a1 (pCopy P0 P1) e (by assumption) (show rg e by omega)) v_X4_83 rfl [25, 26, 27, 28, 29, 30, 31, 32, 33] [0, 1, 2, 3, 4, 5, 6, 7, 8, 9, 10, 11, 12, 13, 14, 15, 16, 17, 18, 19, 20, 21, 22, 23, 24] [0, 1, 2, 3, 4, 5, 6, 7, 8, 9, 10, 11, 12, 13, 14, 15, 16, 17, 18, 19, 20, 21, 22, 23, 24, 25, 26, 27, 28, 29, 30, 31, 32, 33] rfl rfl (by decide) (by decide) rfl rfl 0 rfl rfl rfl (by decide) (by decide) (Nat.le_of_ble_eq_true rfl) dX4_cuts_6 rfl rfl (fun H locs hW => ?_)
  have hrgA : rg (pCut (pCopy P0 P1) e).1 := pCut_a hD
  refine r_callW (rest := []) (r := some (.int (iI (((pCut (pCopy P0 P1) e).1))))) (wr := xW g (ma 3) xa X ++ (pW g p0 a0 P0 ++ pW g p1 a1 ((pCut (pCopy P0 P1) e).2))) (ws2 := fW g o ma (fSetM ((pCut (pCopy P0 P1) e).1) M) ++ (tW g (ma 1) ta (fSetT ((pCut (pCopy P0 P1) e).1) T) ++ (uW g (ma 2) sa (fSetU ((pCut (pCopy P0 P1) e).1) U) ++ (xW g (ma 3) xa X ++ (pW g p0 a0 P0 ++ pW g p1 a1 ((pCut (pCopy P0 P1) e).2)))))) (st1 := [.int (iI (((pCut (pCopy P0 P1) e).1)))]) C hl.1 hW hA (c_X4_settled l g o ma M  ta T  sa U ((pCut (pCopy P0 P1) e).1) (by assumption) (show rg ((pCut (pCopy P0 P1) e).1) by omega)) v_X4_61 rfl [0, 1, 2, 3, 4, 5, 6, 7, 8, 9, 10, 11, 12] [13, 14, 15, 16, 17, 18, 19, 20, 21, 22, 23, 24, 25, 26, 27, 28, 29, 30, 31, 32, 33] [21, 22, 23, 24, 25, 26, 27, 28, 29, 30, 31, 32, 33, 0, 1, 2, 3, 4, 5, 6, 7, 8, 9, 10, 11, 12, 13, 14, 15, 16, 17, 18, 19, 20] rfl rfl (by decide) (by decide) rfl rfl 0 rfl rfl rfl (by decide) (by decide) (Nat.le_of_ble_eq_true rfl) dX4_cuts_9 rfl rfl (fun H locs hW => ?_)
  exact MW_iret C hAe hrt hlk hW dX4_cuts_12 (iw rfl) rfl
set_option maxHeartbeats 4000000 in
set_option maxRecDepth 100000 in
theorem c_X4_partOfEdge (l : Launch) (g : GG) (o : Nat) (ma : Nat → Nat) (M : Mf) (po : Nat) (pa : Nat → Nat) (P : Pg) (e w : Int) (hP : pOk P) (he : 0 ≤ e ∧ e < 32) (hw : rg w) : MR l g yX4_partOfEdge cX4_partOfEdge 4 (some .int) 0 0 [.ref (o), .ref (po), .int (iI (e)), .int (iI (w))] (fW g o ma M ++ pW g po pa P) (.int (iI (fEdge P e w))) := by
  refine MR_start (by decide) (Nat.le_of_ble_eq_true rfl) ?_
  intro zp ze zs zm zb zt zc C hrt hlk hH ls hl
  have hl : lv_has ls 4 [(0, .ref (o)), (1, .ref (po)), (2, .int (iI (e))), (3, .int (iI (w)))] := hl
  obtain ⟨hP_procs, hP_nodes, hP_edges, hP_start, hP_entryOf, hP_exitOf, hP_procOf, hP_kindOf, hP_from, hP_to, hP_callee⟩ := id hP
  refine r_iload_n C dX4_partOfEdge_0 hl 3 rfl ?_
  by_cases hc2 : w = 0
  · refine r_lookup C 28 dX4_partOfEdge_1 (by decide) (by omega) (show _ = (27 : Int) by rw [hc2]; rfl) (by decide) ?_
    refine r_aload_n C dX4_partOfEdge_28 hl 1 rfl ?_
    refine r_get (v := .ref (pa 4)) C f_X4_216 hH 2 rfl rfl dX4_partOfEdge_29 ?_
    refine r_iload_n C dX4_partOfEdge_32 hl 2 rfl ?_
    refine r_iald (f := p_from P) C hH 7 rfl (Nat.le_of_ble_eq_true rfl) (by omega) dX4_partOfEdge_33 ?_
    have hr3 := hP_from e (by omega) (by omega)
    exact MR_iret C hrt hlk dX4_partOfEdge_34 (iv (by unfold fEdge; (repeat' split) <;> first | rfl | (exfalso; omega)))
  by_cases hc4 : w = 1
  · refine r_lookup C 35 dX4_partOfEdge_1 (by decide) (by omega) (show _ = (34 : Int) by rw [hc4]; rfl) (by decide) ?_
    refine r_aload_n C dX4_partOfEdge_35 hl 1 rfl ?_
    refine r_get (v := .ref (pa 5)) C f_X4_219 hH 2 rfl rfl dX4_partOfEdge_36 ?_
    refine r_iload_n C dX4_partOfEdge_39 hl 2 rfl ?_
    refine r_iald (f := p_to P) C hH 8 rfl (Nat.le_of_ble_eq_true rfl) (by omega) dX4_partOfEdge_40 ?_
    have hr5 := hP_to e (by omega) (by omega)
    exact MR_iret C hrt hlk dX4_partOfEdge_41 (iv (by unfold fEdge; (repeat' split) <;> first | rfl | (exfalso; omega)))
  refine r_lookup C 42 dX4_partOfEdge_1 (by decide) (by omega) (off := 41) ?_ (by decide) ?_
  · simp [Op.lookupswitch.offset, *]; try omega
  refine r_aload_n C dX4_partOfEdge_42 hl 1 rfl ?_
  refine r_get (v := .ref (pa 6)) C f_X4_140 hH 2 rfl rfl dX4_partOfEdge_43 ?_
  refine r_iload_n C dX4_partOfEdge_46 hl 2 rfl ?_
  refine r_iald (f := p_callee P) C hH 9 rfl (Nat.le_of_ble_eq_true rfl) (by omega) dX4_partOfEdge_47 ?_
  have hr6 := hP_callee e (by omega) (by omega)
  exact MR_iret C hrt hlk dX4_partOfEdge_48 (iv (by unfold fEdge; (repeat' split) <;> first | rfl | (exfalso; omega)))
set_option maxHeartbeats 4000000 in
set_option maxRecDepth 100000 in
theorem c_X4_partOfEntry (l : Launch) (g : GG) (o : Nat) (ma : Nat → Nat) (M : Mf) (ta : Nat → Nat) (T : Tb) (po : Nat) (pa : Nat → Nat) (P : Pg) (i w : Int) (hT : tOk T) (hP : pOk P) (hi : 0 ≤ i ∧ i < 1536) (hw : rg w) : MR l g yX4_partOfEntry cX4_partOfEntry 4 (some .int) 1 21 [.ref (o), .ref (po), .int (iI (i)), .int (iI (w))] (fW g o ma M ++ (tW g (ma 1) ta T ++ pW g po pa P)) (.int (iI (fEntry P T i w))) := by
  refine MR_start (by decide) (Nat.le_of_ble_eq_true rfl) ?_
  intro zp ze zs zm zb zt zc C hrt hlk hH ls hl
  have hl : lv_has ls 4 [(0, .ref (o)), (1, .ref (po)), (2, .int (iI (i))), (3, .int (iI (w)))] := hl
  obtain ⟨hT_ready, hT_seedProc, hT_seedFacts, hT_size, hT_seen, hT_keys, hT_placeOf, hT_before, hT_through, hT_way, hT_inner, hT_sites, hT_siteCount⟩ := id hT
  obtain ⟨hP_procs, hP_nodes, hP_edges, hP_start, hP_entryOf, hP_exitOf, hP_procOf, hP_kindOf, hP_from, hP_to, hP_callee⟩ := id hP
  refine r_iload_n C dX4_partOfEntry_0 hl 3 rfl ?_
  by_cases hc2 : w = 0
  · refine r_tableIn C 28 dX4_partOfEntry_1 (by omega) (by omega) (show _ = some (27 : Int) by rw [hc2]; rfl) (by decide) ?_
    refine r_aload_n C dX4_partOfEntry_28 hl 1 rfl ?_
    refine r_get (v := .ref (pa 2)) C f_X4_93 hH 11 rfl rfl dX4_partOfEntry_29 ?_
    refine r_aload_n C dX4_partOfEntry_32 hl 0 rfl ?_
    refine r_get (v := .ref (ma 1)) C f_X4_25 hH 0 rfl rfl dX4_partOfEntry_33 ?_
    refine r_iload_n C dX4_partOfEntry_36 hl 2 rfl ?_
    refine r_callR (rest := [.ref (pa 2)]) (r := .int (iI ((t_keys T) i / 64))) C hl.1 (c_X2_nodeOf l g (ma 1) ta T i (by assumption) (show 0 ≤ i ∧ i < 1536 by omega)) v_X4_222 rfl (hH.sub [2, 3, 4, 5, 6, 7, 8, 9, 10] rfl) 0 rfl rfl rfl (by decide) (by decide) (Nat.le_of_ble_eq_true rfl) dX4_partOfEntry_37 rfl ?_
    have hq3 := tKeys_q T i (by assumption) (by omega)
    refine r_iald (f := p_procOf P) C hH 14 rfl (Nat.le_of_ble_eq_true rfl) (by omega) dX4_partOfEntry_40 ?_
    have hr4 := hP_procOf ((t_keys T) i / 64) (by omega) (by omega)
    exact MR_iret C hrt hlk dX4_partOfEntry_41 (iv (by unfold fEntry; (repeat' split) <;> first | rfl | (exfalso; omega)))
  by_cases hc5 : w = 1
  · refine r_tableIn C 42 dX4_partOfEntry_1 (by omega) (by omega) (show _ = some (41 : Int) by rw [hc5]; rfl) (by decide) ?_
    refine r_aload_n C dX4_partOfEntry_42 hl 0 rfl ?_
    refine r_get (v := .ref (ma 1)) C f_X4_25 hH 0 rfl rfl dX4_partOfEntry_43 ?_
    refine r_iload_n C dX4_partOfEntry_46 hl 2 rfl ?_
    refine r_callR (rest := []) (r := .int (iI ((t_keys T) i / 8 % 8))) C hl.1 (c_X2_factAtEntry l g (ma 1) ta T i (by assumption) (show 0 ≤ i ∧ i < 1536 by omega)) v_X4_225 rfl (hH.sub [2, 3, 4, 5, 6, 7, 8, 9, 10] rfl) 0 rfl rfl rfl (by decide) (by decide) (Nat.le_of_ble_eq_true rfl) dX4_partOfEntry_47 rfl ?_
    have hq6 := tKeys_q T i (by assumption) (by omega)
    exact MR_iret C hrt hlk dX4_partOfEntry_50 (iv (by unfold fEntry; (repeat' split) <;> first | rfl | (exfalso; omega)))
  by_cases hc7 : w = 2
  · refine r_tableIn C 51 dX4_partOfEntry_1 (by omega) (by omega) (show _ = some (50 : Int) by rw [hc7]; rfl) (by decide) ?_
    refine r_aload_n C dX4_partOfEntry_51 hl 0 rfl ?_
    refine r_get (v := .ref (ma 1)) C f_X4_25 hH 0 rfl rfl dX4_partOfEntry_52 ?_
    refine r_iload_n C dX4_partOfEntry_55 hl 2 rfl ?_
    refine r_callR (rest := []) (r := .int (iI ((t_keys T) i / 64))) C hl.1 (c_X2_nodeOf l g (ma 1) ta T i (by assumption) (show 0 ≤ i ∧ i < 1536 by omega)) v_X4_222 rfl (hH.sub [2, 3, 4, 5, 6, 7, 8, 9, 10] rfl) 0 rfl rfl rfl (by decide) (by decide) (Nat.le_of_ble_eq_true rfl) dX4_partOfEntry_56 rfl ?_
    have hq8 := tKeys_q T i (by assumption) (by omega)
    exact MR_iret C hrt hlk dX4_partOfEntry_59 (iv (by unfold fEntry; (repeat' split) <;> first | rfl | (exfalso; omega)))
  have hc1 : w < 0 ∨ 2 < w ∨ (0 ≤ w ∧ w ≤ 2) := by omega
  refine r_tableD C 60 dX4_partOfEntry_1 (by omega) (by decide) (fun hlo hhi => ?_) ?_
  · exfalso; omega
  refine r_aload_n C dX4_partOfEntry_60 hl 0 rfl ?_
  refine r_get (v := .ref (ma 1)) C f_X4_25 hH 0 rfl rfl dX4_partOfEntry_61 ?_
  refine r_iload_n C dX4_partOfEntry_64 hl 2 rfl ?_
  refine r_callR (rest := []) (r := .int (iI ((t_keys T) i % 8))) C hl.1 (c_X2_factOf l g (ma 1) ta T i (by assumption) (show 0 ≤ i ∧ i < 1536 by omega)) v_X4_228 rfl (hH.sub [2, 3, 4, 5, 6, 7, 8, 9, 10] rfl) 0 rfl rfl rfl (by decide) (by decide) (Nat.le_of_ble_eq_true rfl) dX4_partOfEntry_65 rfl ?_
  have hq9 := tKeys_q T i (by assumption) (by omega)
  exact MR_iret C hrt hlk dX4_partOfEntry_68 (iv (by unfold fEntry; (repeat' split) <;> first | rfl | (exfalso; omega)))
set_option maxHeartbeats 4000000 in
set_option maxRecDepth 100000 in
theorem c_X4_nodesReached (l : Launch) (g : GG) (o : Nat) (ma : Nat → Nat) (M : Mf) (ta : Nat → Nat) (T : Tb) (po : Nat) (pa : Nat → Nat) (P : Pg) (hT : tOk T) (hP : pOk P) : MR l g yX4_nodesReached cX4_nodesReached 4 (some .int) 2 44 [.ref (o), .ref (po)] (fW g o ma M ++ (tW g (ma 1) ta T ++ pW g po pa P)) (.int (iI (fReached P T))) := by
  refine MR_start (by decide) (Nat.le_of_ble_eq_true rfl) ?_
  intro zp ze zs zm zb zt zc C hrt hlk hH ls hl
  have hl : lv_has ls 4 [(0, .ref (o)), (1, .ref (po))] := hl
  obtain ⟨hT_ready, hT_seedProc, hT_seedFacts, hT_size, hT_seen, hT_keys, hT_placeOf, hT_before, hT_through, hT_way, hT_inner, hT_sites, hT_siteCount⟩ := id hT
  obtain ⟨hP_procs, hP_nodes, hP_edges, hP_start, hP_entryOf, hP_exitOf, hP_procOf, hP_kindOf, hP_from, hP_to, hP_callee⟩ := id hP
  refine r_iconst (z := 0) C dX4_nodesReached_0 rfl ?_
  refine r_istore_n C [(2, .int (iI (0))), (0, .ref (o)), (1, .ref (po))] dX4_nodesReached_1 hl (by decide) rfl (fun ls hl => ?_)
  refine r_iconst (z := 0) C dX4_nodesReached_2 rfl ?_
  refine r_istore_n C [(3, .int (iI (0))), (2, .int (iI (0))), (0, .ref (o)), (1, .ref (po))] dX4_nodesReached_3 hl (by decide) rfl (fun ls hl => ?_)
  have hloop4 : ∀ (k4 : Nat) (n r : Int) (hkk : n + k4 = p_nodes P) (hn : 0 ≤ n) (hq : fReached P T = it (fun n r => r + bA (tFacts T n) 1) k4 n r) (ls : Array Slot), lv_has ls 4 [(0, .ref (o)), (1, .ref (po)), (2, .int (iI (r))), (3, .int (iI (n)))] → W zp l ze (rmm 2 44) zs zm (List.toArray [.ref (o), .ref (po)]) zb zt zc zs.heap [] 0 0 (MQ zb (QR (.int (iI (fReached P T)))) (List.toArray [.ref (o), .ref (po)]) zs 0 0 (fun _ => False)) (F0 zm 4 ls []) := by
    intro k4
    induction k4 with
    | zero =>
      intro n r hkk hn hq ls hl
      refine r_iload_n C dX4_nodesReached_4 hl 3 rfl ?_
      refine r_aload_n C dX4_nodesReached_5 hl 1 rfl ?_
      refine r_get (v := .int (iI (p_nodes P))) C f_X4_234 hH 11 rfl rfl dX4_nodesReached_6 ?_
      refine r_icmp_ge C 31 dX4_nodesReached_9 (by decide) (by omega) (by omega) (fun hc1 => ?_) (fun hc1 => ?_)
      · skip
        refine r_iload_n C dX4_nodesReached_31 hl 2 rfl ?_
        exact MR_iret C hrt hlk dX4_nodesReached_32 (iv (by rw [hq]; rfl))
      · exact absurd hc1 (by omega)
    | succ k4 ih4 =>
      intro n r hkk hn hq ls hl
      refine r_iload_n C dX4_nodesReached_4 hl 3 rfl ?_
      refine r_aload_n C dX4_nodesReached_5 hl 1 rfl ?_
      refine r_get (v := .int (iI (p_nodes P))) C f_X4_234 hH 11 rfl rfl dX4_nodesReached_6 ?_
      refine r_icmp_ge C 31 dX4_nodesReached_9 (by decide) (by omega) (by omega) (fun hc2 => ?_) (fun hc2 => ?_)
      · exact absurd hc2 (by omega)
      · skip
        refine r_iload_n C dX4_nodesReached_12 hl 2 rfl ?_
        refine r_aload_n C dX4_nodesReached_13 hl 0 rfl ?_
        refine r_get (v := .ref (ma 1)) C f_X4_25 hH 0 rfl rfl dX4_nodesReached_14 ?_
        refine r_iload_n C dX4_nodesReached_17 hl 3 rfl ?_
        refine r_callR (rest := [.int (iI (r))]) (r := .int (iI (tFacts T n))) C hl.1 (c_X2_factsAt l g (ma 1) ta T n (by assumption) (show 0 ≤ n ∧ n < 24 by omega)) v_X4_128 rfl (hH.sub [2, 3, 4, 5, 6, 7, 8, 9, 10] rfl) 0 rfl rfl rfl (by decide) (by decide) (Nat.le_of_ble_eq_true rfl) dX4_nodesReached_18 rfl ?_
        have hfr := tFacts_r (n := n) hT (by omega)
        refine r_iconst (z := 1) C dX4_nodesReached_21 rfl ?_
        refine r_iand C (by omega) (by omega) dX4_nodesReached_22 ?_
        have hb3 := bA_0 (tFacts T n) 1
        have hb5 := Nat.and_le_right (n := (tFacts T n).toNat) (m := (1 : Int).toNat); have hb4 : bA (tFacts T n) 1 ≤ 1 := by unfold bA; omega
        refine r_iadd C dX4_nodesReached_23 ?_
        refine r_istore_n C [(2, .int (iI (r + (bA (tFacts T n) 1)))), (0, .ref (o)), (1, .ref (po)), (3, .int (iI (n)))] dX4_nodesReached_24 hl (by decide) rfl (fun ls hl => ?_)
        refine r_iinc (v := n + 1) C [(3, .int (iI (n + 1))), (2, .int (iI (r + (bA (tFacts T n) 1)))), (0, .ref (o)), (1, .ref (po))] dX4_nodesReached_25 hl 3 rfl (by decide) (by omega) rfl (fun ls hl => ?_)
        refine r_goto C 4 dX4_nodesReached_28 (by decide) ?_
        exact ih4 _ _ (by omega) (by omega) (by rw [hq, it_s]) ls (lv_sub hl [2, 3, 1, 0] rfl)
  exact hloop4 (p_nodes P).toNat 0 0 (by omega) (by omega) rfl ls (lv_sub hl [2, 3, 1, 0] rfl)
set_option maxHeartbeats 4000000 in
set_option maxRecDepth 100000 in
theorem c_X4_counted (l : Launch) (g : GG) (o : Nat) (ma : Nat → Nat) (M : Mf) (ta : Nat → Nat) (T : Tb) (po : Nat) (pa : Nat → Nat) (P : Pg) (w : Int) (hT : tOk T) (hP : pOk P) (hw : rg w) : MR l g yX4_counted cX4_counted 3 (some .int) 3 67 [.ref (o), .ref (po), .int (iI (w))] (fW g o ma M ++ (tW g (ma 1) ta T ++ pW g po pa P)) (.int (iI (fCounted P T w))) := by
  refine MR_start (by decide) (Nat.le_of_ble_eq_true rfl) ?_
  intro zp ze zs zm zb zt zc C hrt hlk hH ls hl
  have hl : lv_has ls 3 [(0, .ref (o)), (1, .ref (po)), (2, .int (iI (w)))] := hl
  obtain ⟨hT_ready, hT_seedProc, hT_seedFacts, hT_size, hT_seen, hT_keys, hT_placeOf, hT_before, hT_through, hT_way, hT_inner, hT_sites, hT_siteCount⟩ := id hT
  obtain ⟨hP_procs, hP_nodes, hP_edges, hP_start, hP_entryOf, hP_exitOf, hP_procOf, hP_kindOf, hP_from, hP_to, hP_callee⟩ := id hP
  refine r_iload_n C dX4_counted_0 hl 2 rfl ?_
  by_cases hc2 : w = 0
  · refine r_tableIn C 36 dX4_counted_1 (by omega) (by omega) (show _ = some (35 : Int) by rw [hc2]; rfl) (by decide) ?_
    refine r_aload_n C dX4_counted_36 hl 1 rfl ?_
    refine r_get (v := .int (iI (p_procs P))) C f_X4_231 hH 11 rfl rfl dX4_counted_37 ?_
    exact MR_iret C hrt hlk dX4_counted_40 (iv (by unfold fCounted; (repeat' split) <;> first | rfl | (exfalso; omega)))
  by_cases hc3 : w = 1
  · refine r_tableIn C 41 dX4_counted_1 (by omega) (by omega) (show _ = some (40 : Int) by rw [hc3]; rfl) (by decide) ?_
    refine r_aload_n C dX4_counted_41 hl 1 rfl ?_
    refine r_get (v := .int (iI (p_nodes P))) C f_X4_234 hH 11 rfl rfl dX4_counted_42 ?_
    exact MR_iret C hrt hlk dX4_counted_45 (iv (by unfold fCounted; (repeat' split) <;> first | rfl | (exfalso; omega)))
  by_cases hc4 : w = 2
  · refine r_tableIn C 46 dX4_counted_1 (by omega) (by omega) (show _ = some (45 : Int) by rw [hc4]; rfl) (by decide) ?_
    refine r_aload_n C dX4_counted_46 hl 1 rfl ?_
    refine r_get (v := .int (iI (p_edges P))) C f_X4_237 hH 11 rfl rfl dX4_counted_47 ?_
    exact MR_iret C hrt hlk dX4_counted_50 (iv (by unfold fCounted; (repeat' split) <;> first | rfl | (exfalso; omega)))
  by_cases hc5 : w = 3
  · refine r_tableIn C 51 dX4_counted_1 (by omega) (by omega) (show _ = some (50 : Int) by rw [hc5]; rfl) (by decide) ?_
    refine r_aload_n C dX4_counted_51 hl 1 rfl ?_
    refine r_get (v := .int (iI (p_start P))) C f_X4_117 hH 11 rfl rfl dX4_counted_52 ?_
    exact MR_iret C hrt hlk dX4_counted_55 (iv (by unfold fCounted; (repeat' split) <;> first | rfl | (exfalso; omega)))
  by_cases hc6 : w = 4
  · refine r_tableIn C 56 dX4_counted_1 (by omega) (by omega) (show _ = some (55 : Int) by rw [hc6]; rfl) (by decide) ?_
    refine r_aload_n C dX4_counted_56 hl 0 rfl ?_
    refine r_get (v := .ref (ma 1)) C f_X4_25 hH 0 rfl rfl dX4_counted_57 ?_
    refine r_get (v := .int (iI (t_size T))) C f_X4_155 hH 2 rfl rfl dX4_counted_60 ?_
    exact MR_iret C hrt hlk dX4_counted_63 (iv (by unfold fCounted; (repeat' split) <;> first | rfl | (exfalso; omega)))
  have hc1 : w < 0 ∨ 4 < w ∨ (0 ≤ w ∧ w ≤ 4) := by omega
  refine r_tableD C 64 dX4_counted_1 (by omega) (by decide) (fun hlo hhi => ?_) ?_
  · exfalso; omega
  refine r_aload_n C dX4_counted_64 hl 0 rfl ?_
  refine r_aload_n C dX4_counted_65 hl 1 rfl ?_
  refine r_callR (rest := []) (r := .int (iI (fReached P T))) C hl.1 (c_X4_nodesReached l g o ma M  ta T po pa P  (by assumption) (by assumption)) v_X4_240 rfl hH 0 rfl rfl rfl (by decide) (by decide) (Nat.le_of_ble_eq_true rfl) dX4_counted_66 rfl ?_
  exact MR_iret C hrt hlk dX4_counted_69 (iv (by unfold fCounted; (repeat' split) <;> first | rfl | (exfalso; omega)))
set_option maxHeartbeats 4000000 in
set_option maxRecDepth 100000 in
theorem c_X4_tally (l : Launch) (g : GG) (o : Nat) (ma : Nat → Nat) (M : Mf) (xa : Nat → Nat) (X : Tx) (w : Int) (hw : rg w) : MR l g yX4_tally cX4_tally 2 (some .int) 0 0 [.ref (o), .int (iI (w))] (fW g o ma M ++ xW g (ma 3) xa X) (.int (iI (fTally M X w))) := by
  refine MR_start (by decide) (Nat.le_of_ble_eq_true rfl) ?_
  intro zp ze zs zm zb zt zc C hrt hlk hH ls hl
  have hl : lv_has ls 2 [(0, .ref (o)), (1, .int (iI (w)))] := hl
  refine r_iload_n C dX4_tally_0 hl 1 rfl ?_
  by_cases hc2 : w = 0
  · refine r_tableIn C 32 dX4_tally_1 (by omega) (by omega) (show _ = some (31 : Int) by rw [hc2]; rfl) (by decide) ?_
    refine r_aload_n C dX4_tally_32 hl 0 rfl ?_
    refine r_get (v := .int (iI (f_timesBad M))) C f_X4_43 hH 0 rfl rfl dX4_tally_33 ?_
    exact MR_iret C hrt hlk dX4_tally_36 (iv (by unfold fTally; (repeat' split) <;> first | rfl | (exfalso; omega)))
  by_cases hc3 : w = 1
  · refine r_tableIn C 37 dX4_tally_1 (by omega) (by omega) (show _ = some (36 : Int) by rw [hc3]; rfl) (by decide) ?_
    refine r_aload_n C dX4_tally_37 hl 0 rfl ?_
    refine r_get (v := .int (iI (f_timesNo M))) C f_X4_46 hH 0 rfl rfl dX4_tally_38 ?_
    exact MR_iret C hrt hlk dX4_tally_41 (iv (by unfold fTally; (repeat' split) <;> first | rfl | (exfalso; omega)))
  by_cases hc4 : w = 2
  · refine r_tableIn C 42 dX4_tally_1 (by omega) (by omega) (show _ = some (41 : Int) by rw [hc4]; rfl) (by decide) ?_
    refine r_aload_n C dX4_tally_42 hl 0 rfl ?_
    refine r_get (v := .int (iI (f_timesFull M))) C f_X4_49 hH 0 rfl rfl dX4_tally_43 ?_
    exact MR_iret C hrt hlk dX4_tally_46 (iv (by unfold fTally; (repeat' split) <;> first | rfl | (exfalso; omega)))
  by_cases hc5 : w = 3
  · refine r_tableIn C 47 dX4_tally_1 (by omega) (by omega) (show _ = some (46 : Int) by rw [hc5]; rfl) (by decide) ?_
    refine r_aload_n C dX4_tally_47 hl 0 rfl ?_
    refine r_get (v := .ref (ma 3)) C f_X4_39 hH 0 rfl rfl dX4_tally_48 ?_
    refine r_get (v := .int (iI (x_length X))) C f_X4_173 hH 2 rfl rfl dX4_tally_51 ?_
    exact MR_iret C hrt hlk dX4_tally_54 (iv (by unfold fTally; (repeat' split) <;> first | rfl | (exfalso; omega)))
  have hc1 : w < 0 ∨ 3 < w ∨ (0 ≤ w ∧ w ≤ 3) := by omega
  refine r_tableD C 55 dX4_tally_1 (by omega) (by decide) (fun hlo hhi => ?_) ?_
  · exfalso; omega
  refine r_aload_n C dX4_tally_55 hl 0 rfl ?_
  refine r_get (v := .int (iI (f_states M))) C f_X4_19 hH 0 rfl rfl dX4_tally_56 ?_
  exact MR_iret C hrt hlk dX4_tally_59 (iv (by unfold fTally; (repeat' split) <;> first | rfl | (exfalso; omega)))
set_option maxHeartbeats 4000000 in
set_option maxRecDepth 100000 in
theorem c_X4_at (l : Launch) (g : GG) (o : Nat) (ma : Nat → Nat) (M : Mf) (ta : Nat → Nat) (T : Tb) (sa : Nat → Nat) (U : Sp) (xa : Nat → Nat) (X : Tx) (p0 : Nat) (a0 : Nat → Nat) (P0 : Pg) (n w : Int) (hM : fOk M) (hT : tOk T) (hU : uOk U) (hX : xOk X) (hP0 : pOk P0) (hr0 : f_rows M (f_now M).toNat = some p0) (h_n : rg n) (h_w : rg w) : MW l g yX4_at cX4_at 4 (some .int) 1 21 [.ref (o), .int (iI (n)), .int (iI (w))] (fW g o ma M ++ (tW g (ma 1) ta T ++ (uW g (ma 2) sa U ++ (xW g (ma 3) xa X ++ pW g p0 a0 P0)))) (fW g o ma ((fAt P0 n w M).2) ++ (tW g (ma 1) ta T ++ (uW g (ma 2) sa U ++ (xW g (ma 3) xa X ++ pW g p0 a0 P0)))) (some (.int (iI ((fAt P0 n w M).1)))) := by
  refine MW_start (by decide) (Nat.le_of_ble_eq_true rfl) ?_
  intro zp ze zs zm zb zt zc A hAe C hrt hlk hW ls hl
  have hA : ∀ q, zs.heap.size ≤ q → A q := fun q h => by rw [hAe]; exact Or.inr h
  have hl : lv_has ls 4 [(0, .ref (o)), (1, .int (iI (n))), (2, .int (iI (w)))] := hl
  obtain ⟨hM_now, hM_states, hM_timesBad, hM_timesNo, hM_timesFull⟩ := id hM
  obtain ⟨hT_ready, hT_seedProc, hT_seedFacts, hT_size, hT_seen, hT_keys, hT_placeOf, hT_before, hT_through, hT_way, hT_inner, hT_sites, hT_siteCount⟩ := id hT
  obtain ⟨hU_ready, hU_reached⟩ := id hU
  obtain ⟨hX_length, hX_orders, hX_bytes, hX_parts, hX_place⟩ := id hX
  obtain ⟨hP0_procs, hP0_nodes, hP0_edges, hP0_start, hP0_entryOf, hP0_exitOf, hP0_procOf, hP0_kindOf, hP0_from, hP0_to, hP0_callee⟩ := id hP0
  refine r_aload_n C dX4_at_0 hl 0 rfl ?_
  refine r_get (v := .ref (ma 0)) C f_X4_11 hW.1 0 rfl rfl dX4_at_1 ?_
  refine r_aload_n C dX4_at_4 hl 0 rfl ?_
  refine r_get (v := .int (iI (f_now M))) C f_X4_15 hW.1 0 rfl rfl dX4_at_5 ?_
  refine r_aald (f := f_rows M) (b := p0) C hW.1 1 rfl (Nat.le_of_ble_eq_true rfl) (by omega) hr0 dX4_at_8 ?_
  refine r_astore_n C [(3, .ref (p0)), (0, .ref (o)), (1, .int (iI (n))), (2, .int (iI (w)))] dX4_at_9 hl (by decide) rfl (fun ls hl => ?_)
  refine r_aload_n C dX4_at_10 hl 0 rfl ?_
  refine r_iload_n C dX4_at_11 hl 2 rfl ?_
  refine r_callR (rest := []) (r := .int (iI (bI (0 ≤ n ∧ n < (p_nodes P0))))) C hl.1 (c_X0_isNode l g p0 a0 P0 n (by assumption) (show rg n by omega)) v_X4_86 rfl (hW.1.sub [16, 17, 18, 19, 20, 21, 22, 23, 24] rfl) 0 rfl rfl rfl (by decide) (by decide) (Nat.le_of_ble_eq_true rfl) dX4_at_12 rfl ?_
  refine r_ifb_eq C 27 dX4_at_15 (by decide) (fun hc1 => ?_) (fun hc1 => ?_)
  · skip
    refine r_aload_n C dX4_at_27 hl 1 rfl ?_
    refine r_bipush (z := -2) C dX4_at_28 rfl ?_
    refine r_callW (rest := []) (r := some (.int (iI ((-2))))) (wr := tW g (ma 1) ta T ++ (uW g (ma 2) sa U ++ (xW g (ma 3) xa X ++ pW g p0 a0 P0))) (ws2 := fW g o ma (fRef (-2) M) ++ (tW g (ma 1) ta T ++ (uW g (ma 2) sa U ++ (xW g (ma 3) xa X ++ pW g p0 a0 P0)))) (st1 := [.int (iI ((-2)))]) C hl.1 hW hA (c_X4_refused l g o ma M (-2) (by assumption) (show rg (-2) by omega)) v_X4_90 rfl [0, 1] [2, 3, 4, 5, 6, 7, 8, 9, 10, 11, 12, 13, 14, 15, 16, 17, 18, 19, 20, 21, 22, 23, 24] [23, 24, 0, 1, 2, 3, 4, 5, 6, 7, 8, 9, 10, 11, 12, 13, 14, 15, 16, 17, 18, 19, 20, 21, 22] rfl rfl (by decide) (by decide) rfl rfl 0 rfl rfl rfl (by decide) (by decide) (Nat.le_of_ble_eq_true rfl) dX4_at_30 rfl rfl (fun H locs hW => ?_)
    have hE : fAt P0 n w M = ((-2), fRef (-2) M) := by unfold fAt; (repeat' split) <;> first | rfl | (exfalso; omega)
    exact MW_iret C hAe hrt hlk hW dX4_at_33 (iw (by rw [hE])) (by rw [hE])
  · skip
    refine r_iload_n C dX4_at_18 hl 3 rfl ?_
    refine r_if_lt C 27 dX4_at_19 (by decide) (by omega) (fun hc2 => ?_) (fun hc2 => ?_)
    · skip
      refine r_aload_n C dX4_at_27 hl 1 rfl ?_
      refine r_bipush (z := -2) C dX4_at_28 rfl ?_
      refine r_callW (rest := []) (r := some (.int (iI ((-2))))) (wr := tW g (ma 1) ta T ++ (uW g (ma 2) sa U ++ (xW g (ma 3) xa X ++ pW g p0 a0 P0))) (ws2 := fW g o ma (fRef (-2) M) ++ (tW g (ma 1) ta T ++ (uW g (ma 2) sa U ++ (xW g (ma 3) xa X ++ pW g p0 a0 P0)))) (st1 := [.int (iI ((-2)))]) C hl.1 hW hA (c_X4_refused l g o ma M (-2) (by assumption) (show rg (-2) by omega)) v_X4_90 rfl [0, 1] [2, 3, 4, 5, 6, 7, 8, 9, 10, 11, 12, 13, 14, 15, 16, 17, 18, 19, 20, 21, 22, 23, 24] [23, 24, 0, 1, 2, 3, 4, 5, 6, 7, 8, 9, 10, 11, 12, 13, 14, 15, 16, 17, 18, 19, 20, 21, 22] rfl rfl (by decide) (by decide) rfl rfl 0 rfl rfl rfl (by decide) (by decide) (Nat.le_of_ble_eq_true rfl) dX4_at_30 rfl rfl (fun H locs hW => ?_)
      have hE : fAt P0 n w M = ((-2), fRef (-2) M) := by unfold fAt; (repeat' split) <;> first | rfl | (exfalso; omega)
      exact MW_iret C hAe hrt hlk hW dX4_at_33 (iw (by rw [hE])) (by rw [hE])
    · skip
      refine r_iload_n C dX4_at_22 hl 3 rfl ?_
      refine r_iconst (z := 1) C dX4_at_23 rfl ?_
      refine r_icmp_le C 34 dX4_at_24 (by decide) (by omega) (by omega) (fun hc3 => ?_) (fun hc3 => ?_)
      · skip
        refine r_iload_n C dX4_at_34 hl 3 rfl ?_
        refine r_if_ne C 47 dX4_at_35 (by decide) (by omega) (fun hc4 => ?_) (fun hc4 => ?_)
        · skip
          refine r_aload_n C dX4_at_47 hl 0 rfl ?_
          refine r_get (v := .ref (a0 3)) C f_X4_97 hW.1 16 rfl rfl dX4_at_48 ?_
          refine r_iload_n C dX4_at_51 hl 2 rfl ?_
          refine r_iald (f := p_kindOf P0) C hW.1 20 rfl (Nat.le_of_ble_eq_true rfl) (by omega) dX4_at_52 ?_
          have hr5 := hP0_kindOf n (by omega) (by omega)
          have hE : fAt P0 n w M = (p_kindOf P0 n, M) := by unfold fAt; (repeat' split) <;> first | rfl | (exfalso; omega)
          exact MW_iret C hAe hrt hlk hW dX4_at_53 (iw (by rw [hE])) (by rw [hE])
        · skip
          refine r_aload_n C dX4_at_38 hl 0 rfl ?_
          refine r_get (v := .ref (a0 2)) C f_X4_93 hW.1 16 rfl rfl dX4_at_39 ?_
          refine r_iload_n C dX4_at_42 hl 2 rfl ?_
          refine r_iald (f := p_procOf P0) C hW.1 19 rfl (Nat.le_of_ble_eq_true rfl) (by omega) dX4_at_43 ?_
          have hr6 := hP0_procOf n (by omega) (by omega)
          refine r_goto C 53 dX4_at_44 (by decide) ?_
          have hE : fAt P0 n w M = (p_procOf P0 n, M) := by unfold fAt; (repeat' split) <;> first | rfl | (exfalso; omega)
          exact MW_iret C hAe hrt hlk hW dX4_at_53 (iw (by rw [hE])) (by rw [hE])
      · skip
        refine r_aload_n C dX4_at_27 hl 1 rfl ?_
        refine r_bipush (z := -2) C dX4_at_28 rfl ?_
        refine r_callW (rest := []) (r := some (.int (iI ((-2))))) (wr := tW g (ma 1) ta T ++ (uW g (ma 2) sa U ++ (xW g (ma 3) xa X ++ pW g p0 a0 P0))) (ws2 := fW g o ma (fRef (-2) M) ++ (tW g (ma 1) ta T ++ (uW g (ma 2) sa U ++ (xW g (ma 3) xa X ++ pW g p0 a0 P0)))) (st1 := [.int (iI ((-2)))]) C hl.1 hW hA (c_X4_refused l g o ma M (-2) (by assumption) (show rg (-2) by omega)) v_X4_90 rfl [0, 1] [2, 3, 4, 5, 6, 7, 8, 9, 10, 11, 12, 13, 14, 15, 16, 17, 18, 19, 20, 21, 22, 23, 24] [23, 24, 0, 1, 2, 3, 4, 5, 6, 7, 8, 9, 10, 11, 12, 13, 14, 15, 16, 17, 18, 19, 20, 21, 22] rfl rfl (by decide) (by decide) rfl rfl 0 rfl rfl rfl (by decide) (by decide) (Nat.le_of_ble_eq_true rfl) dX4_at_30 rfl rfl (fun H locs hW => ?_)
        have hE : fAt P0 n w M = ((-2), fRef (-2) M) := by unfold fAt; (repeat' split) <;> first | rfl | (exfalso; omega)
        exact MW_iret C hAe hrt hlk hW dX4_at_33 (iw (by rw [hE])) (by rw [hE])
set_option maxHeartbeats 4000000 in
set_option maxRecDepth 100000 in
theorem c_X4_about (l : Launch) (g : GG) (o : Nat) (ma : Nat → Nat) (M : Mf) (ta : Nat → Nat) (T : Tb) (sa : Nat → Nat) (U : Sp) (xa : Nat → Nat) (X : Tx) (p0 : Nat) (a0 : Nat → Nat) (P0 : Pg) (e w : Int) (hM : fOk M) (hT : tOk T) (hU : uOk U) (hX : xOk X) (hP0 : pOk P0) (hr0 : f_rows M (f_now M).toNat = some p0) (h_e : rg e) (h_w : rg w) : MW l g yX4_about cX4_about 4 (some .int) 1 23 [.ref (o), .int (iI (e)), .int (iI (w))] (fW g o ma M ++ (tW g (ma 1) ta T ++ (uW g (ma 2) sa U ++ (xW g (ma 3) xa X ++ pW g p0 a0 P0)))) (fW g o ma ((fAbout P0 e w M).2) ++ (tW g (ma 1) ta T ++ (uW g (ma 2) sa U ++ (xW g (ma 3) xa X ++ pW g p0 a0 P0)))) (some (.int (iI ((fAbout P0 e w M).1)))) := by
  refine MW_start (by decide) (Nat.le_of_ble_eq_true rfl) ?_
  intro zp ze zs zm zb zt zc A hAe C hrt hlk hW ls hl
  have hA : ∀ q, zs.heap.size ≤ q → A q := fun q h => by rw [hAe]; exact Or.inr h
  have hl : lv_has ls 4 [(0, .ref (o)), (1, .int (iI (e))), (2, .int (iI (w)))] := hl
  obtain ⟨hM_now, hM_states, hM_timesBad, hM_timesNo, hM_timesFull⟩ := id hM
  obtain ⟨hT_ready, hT_seedProc, hT_seedFacts, hT_size, hT_seen, hT_keys, hT_placeOf, hT_before, hT_through, hT_way, hT_inner, hT_sites, hT_siteCount⟩ := id hT
  obtain ⟨hU_ready, hU_reached⟩ := id hU
  obtain ⟨hX_length, hX_orders, hX_bytes, hX_parts, hX_place⟩ := id hX
  obtain ⟨hP0_procs, hP0_nodes, hP0_edges, hP0_start, hP0_entryOf, hP0_exitOf, hP0_procOf, hP0_kindOf, hP0_from, hP0_to, hP0_callee⟩ := id hP0
  refine r_aload_n C dX4_about_0 hl 0 rfl ?_
  refine r_get (v := .ref (ma 0)) C f_X4_11 hW.1 0 rfl rfl dX4_about_1 ?_
  refine r_aload_n C dX4_about_4 hl 0 rfl ?_
  refine r_get (v := .int (iI (f_now M))) C f_X4_15 hW.1 0 rfl rfl dX4_about_5 ?_
  refine r_aald (f := f_rows M) (b := p0) C hW.1 1 rfl (Nat.le_of_ble_eq_true rfl) (by omega) hr0 dX4_about_8 ?_
  refine r_astore_n C [(3, .ref (p0)), (0, .ref (o)), (1, .int (iI (e))), (2, .int (iI (w)))] dX4_about_9 hl (by decide) rfl (fun ls hl => ?_)
  refine r_aload_n C dX4_about_10 hl 0 rfl ?_
  refine r_iload_n C dX4_about_11 hl 2 rfl ?_
  refine r_callR (rest := []) (r := .int (iI (bI (0 ≤ e ∧ e < (p_edges P0))))) C hl.1 (c_X0_isEdge l g p0 a0 P0 e (by assumption) (show rg e by omega)) v_X4_100 rfl (hW.1.sub [16, 17, 18, 19, 20, 21, 22, 23, 24] rfl) 0 rfl rfl rfl (by decide) (by decide) (Nat.le_of_ble_eq_true rfl) dX4_about_12 rfl ?_
  refine r_ifb_eq C 27 dX4_about_15 (by decide) (fun hc1 => ?_) (fun hc1 => ?_)
  · skip
    refine r_aload_n C dX4_about_27 hl 1 rfl ?_
    refine r_bipush (z := -2) C dX4_about_28 rfl ?_
    refine r_callW (rest := []) (r := some (.int (iI ((-2))))) (wr := tW g (ma 1) ta T ++ (uW g (ma 2) sa U ++ (xW g (ma 3) xa X ++ pW g p0 a0 P0))) (ws2 := fW g o ma (fRef (-2) M) ++ (tW g (ma 1) ta T ++ (uW g (ma 2) sa U ++ (xW g (ma 3) xa X ++ pW g p0 a0 P0)))) (st1 := [.int (iI ((-2)))]) C hl.1 hW hA (c_X4_refused l g o ma M (-2) (by assumption) (show rg (-2) by omega)) v_X4_90 rfl [0, 1] [2, 3, 4, 5, 6, 7, 8, 9, 10, 11, 12, 13, 14, 15, 16, 17, 18, 19, 20, 21, 22, 23, 24] [23, 24, 0, 1, 2, 3, 4, 5, 6, 7, 8, 9, 10, 11, 12, 13, 14, 15, 16, 17, 18, 19, 20, 21, 22] rfl rfl (by decide) (by decide) rfl rfl 0 rfl rfl rfl (by decide) (by decide) (Nat.le_of_ble_eq_true rfl) dX4_about_30 rfl rfl (fun H locs hW => ?_)
    have hE : fAbout P0 e w M = ((-2), fRef (-2) M) := by unfold fAbout; (repeat' split) <;> first | rfl | (exfalso; omega)
    exact MW_iret C hAe hrt hlk hW dX4_about_33 (iw (by rw [hE])) (by rw [hE])
  · skip
    refine r_iload_n C dX4_about_18 hl 3 rfl ?_
    refine r_if_lt C 27 dX4_about_19 (by decide) (by omega) (fun hc2 => ?_) (fun hc2 => ?_)
    · skip
      refine r_aload_n C dX4_about_27 hl 1 rfl ?_
      refine r_bipush (z := -2) C dX4_about_28 rfl ?_
      refine r_callW (rest := []) (r := some (.int (iI ((-2))))) (wr := tW g (ma 1) ta T ++ (uW g (ma 2) sa U ++ (xW g (ma 3) xa X ++ pW g p0 a0 P0))) (ws2 := fW g o ma (fRef (-2) M) ++ (tW g (ma 1) ta T ++ (uW g (ma 2) sa U ++ (xW g (ma 3) xa X ++ pW g p0 a0 P0)))) (st1 := [.int (iI ((-2)))]) C hl.1 hW hA (c_X4_refused l g o ma M (-2) (by assumption) (show rg (-2) by omega)) v_X4_90 rfl [0, 1] [2, 3, 4, 5, 6, 7, 8, 9, 10, 11, 12, 13, 14, 15, 16, 17, 18, 19, 20, 21, 22, 23, 24] [23, 24, 0, 1, 2, 3, 4, 5, 6, 7, 8, 9, 10, 11, 12, 13, 14, 15, 16, 17, 18, 19, 20, 21, 22] rfl rfl (by decide) (by decide) rfl rfl 0 rfl rfl rfl (by decide) (by decide) (Nat.le_of_ble_eq_true rfl) dX4_about_30 rfl rfl (fun H locs hW => ?_)
      have hE : fAbout P0 e w M = ((-2), fRef (-2) M) := by unfold fAbout; (repeat' split) <;> first | rfl | (exfalso; omega)
      exact MW_iret C hAe hrt hlk hW dX4_about_33 (iw (by rw [hE])) (by rw [hE])
    · skip
      refine r_iload_n C dX4_about_22 hl 3 rfl ?_
      refine r_iconst (z := 2) C dX4_about_23 rfl ?_
      refine r_icmp_le C 34 dX4_about_24 (by decide) (by omega) (by omega) (fun hc3 => ?_) (fun hc3 => ?_)
      · skip
        refine r_aload_n C dX4_about_34 hl 1 rfl ?_
        refine r_aload_n C dX4_about_35 hl 0 rfl ?_
        refine r_iload_n C dX4_about_36 hl 2 rfl ?_
        refine r_iload_n C dX4_about_37 hl 3 rfl ?_
        refine r_callR (rest := []) (r := .int (iI (fEdge P0 e w))) C hl.1 (c_X4_partOfEdge l g o ma M p0 a0 P0 e w (by assumption) (show 0 ≤ e ∧ e < 32 by omega) (show rg w by omega)) v_X4_103 rfl (hW.1.sub [0, 1, 16, 17, 18, 19, 20, 21, 22, 23, 24] rfl) 0 rfl rfl rfl (by decide) (by decide) (Nat.le_of_ble_eq_true rfl) dX4_about_38 rfl ?_
        have hq4 := fEdge_q P0 e w (by assumption) (by omega)
        have hE : fAbout P0 e w M = (fEdge P0 e w, M) := by unfold fAbout; (repeat' split) <;> first | rfl | (exfalso; omega)
        exact MW_iret C hAe hrt hlk hW dX4_about_41 (iw (by rw [hE])) (by rw [hE])
      · skip
        refine r_aload_n C dX4_about_27 hl 1 rfl ?_
        refine r_bipush (z := -2) C dX4_about_28 rfl ?_
        refine r_callW (rest := []) (r := some (.int (iI ((-2))))) (wr := tW g (ma 1) ta T ++ (uW g (ma 2) sa U ++ (xW g (ma 3) xa X ++ pW g p0 a0 P0))) (ws2 := fW g o ma (fRef (-2) M) ++ (tW g (ma 1) ta T ++ (uW g (ma 2) sa U ++ (xW g (ma 3) xa X ++ pW g p0 a0 P0)))) (st1 := [.int (iI ((-2)))]) C hl.1 hW hA (c_X4_refused l g o ma M (-2) (by assumption) (show rg (-2) by omega)) v_X4_90 rfl [0, 1] [2, 3, 4, 5, 6, 7, 8, 9, 10, 11, 12, 13, 14, 15, 16, 17, 18, 19, 20, 21, 22, 23, 24] [23, 24, 0, 1, 2, 3, 4, 5, 6, 7, 8, 9, 10, 11, 12, 13, 14, 15, 16, 17, 18, 19, 20, 21, 22] rfl rfl (by decide) (by decide) rfl rfl 0 rfl rfl rfl (by decide) (by decide) (Nat.le_of_ble_eq_true rfl) dX4_about_30 rfl rfl (fun H locs hW => ?_)
        have hE : fAbout P0 e w M = ((-2), fRef (-2) M) := by unfold fAbout; (repeat' split) <;> first | rfl | (exfalso; omega)
        exact MW_iret C hAe hrt hlk hW dX4_about_33 (iw (by rw [hE])) (by rw [hE])
set_option maxHeartbeats 4000000 in
set_option maxRecDepth 100000 in
theorem c_X4_goes (l : Launch) (g : GG) (o : Nat) (ma : Nat → Nat) (M : Mf) (ta : Nat → Nat) (T : Tb) (sa : Nat → Nat) (U : Sp) (xa : Nat → Nat) (X : Tx) (p0 : Nat) (a0 : Nat → Nat) (P0 : Pg) (e w a : Int) (hM : fOk M) (hT : tOk T) (hU : uOk U) (hX : xOk X) (hP0 : pOk P0) (hr0 : f_rows M (f_now M).toNat = some p0) (h_e : rg e) (h_w : rg w) (h_a : rg a) : MW l g yX4_goes cX4_goes 5 (some .int) 2 43 [.ref (o), .int (iI (e)), .int (iI (w)), .int (iI (a))] (fW g o ma M ++ (tW g (ma 1) ta T ++ (uW g (ma 2) sa U ++ (xW g (ma 3) xa X ++ pW g p0 a0 P0)))) (fW g o ma ((fGoes P0 e w a M).2) ++ (tW g (ma 1) ta T ++ (uW g (ma 2) sa U ++ (xW g (ma 3) xa X ++ pW g p0 a0 P0)))) (some (.int (iI ((fGoes P0 e w a M).1)))) := by
  refine MW_start (by decide) (Nat.le_of_ble_eq_true rfl) ?_
  intro zp ze zs zm zb zt zc A hAe C hrt hlk hW ls hl
  have hA : ∀ q, zs.heap.size ≤ q → A q := fun q h => by rw [hAe]; exact Or.inr h
  have hl : lv_has ls 5 [(0, .ref (o)), (1, .int (iI (e))), (2, .int (iI (w))), (3, .int (iI (a)))] := hl
  obtain ⟨hM_now, hM_states, hM_timesBad, hM_timesNo, hM_timesFull⟩ := id hM
  obtain ⟨hT_ready, hT_seedProc, hT_seedFacts, hT_size, hT_seen, hT_keys, hT_placeOf, hT_before, hT_through, hT_way, hT_inner, hT_sites, hT_siteCount⟩ := id hT
  obtain ⟨hU_ready, hU_reached⟩ := id hU
  obtain ⟨hX_length, hX_orders, hX_bytes, hX_parts, hX_place⟩ := id hX
  obtain ⟨hP0_procs, hP0_nodes, hP0_edges, hP0_start, hP0_entryOf, hP0_exitOf, hP0_procOf, hP0_kindOf, hP0_from, hP0_to, hP0_callee⟩ := id hP0
  refine r_aload_n C dX4_goes_0 hl 0 rfl ?_
  refine r_get (v := .ref (ma 0)) C f_X4_11 hW.1 0 rfl rfl dX4_goes_1 ?_
  refine r_aload_n C dX4_goes_4 hl 0 rfl ?_
  refine r_get (v := .int (iI (f_now M))) C f_X4_15 hW.1 0 rfl rfl dX4_goes_5 ?_
  refine r_aald (f := f_rows M) (b := p0) C hW.1 1 rfl (Nat.le_of_ble_eq_true rfl) (by omega) hr0 dX4_goes_8 ?_
  refine r_astore C [(4, .ref (p0)), (0, .ref (o)), (1, .int (iI (e))), (2, .int (iI (w))), (3, .int (iI (a)))] dX4_goes_9 hl (by decide) rfl (fun ls hl => ?_)
  refine r_aload C dX4_goes_11 hl 0 rfl ?_
  refine r_iload_n C dX4_goes_13 hl 2 rfl ?_
  refine r_iload_n C dX4_goes_14 hl 3 rfl ?_
  refine r_callR (rest := []) (r := .int (iI (bI ((0 ≤ e ∧ e < (p_edges P0)) ∧ 0 ≤ w ∧ w < (if (p_callee P0) e = -1 then 1 else 3))))) C hl.1 (c_X0_hasFlow l g p0 a0 P0 e w (by assumption) (show rg e by omega) (show rg w by omega)) v_X4_107 rfl (hW.1.sub [16, 17, 18, 19, 20, 21, 22, 23, 24] rfl) 0 rfl rfl rfl (by decide) (by decide) (Nat.le_of_ble_eq_true rfl) dX4_goes_15 rfl ?_
  refine r_ifb_eq C 28 dX4_goes_18 (by decide) (fun hc1 => ?_) (fun hc1 => ?_)
  · skip
    refine r_aload_n C dX4_goes_28 hl 1 rfl ?_
    refine r_bipush (z := -2) C dX4_goes_29 rfl ?_
    refine r_callW (rest := []) (r := some (.int (iI ((-2))))) (wr := tW g (ma 1) ta T ++ (uW g (ma 2) sa U ++ (xW g (ma 3) xa X ++ pW g p0 a0 P0))) (ws2 := fW g o ma (fRef (-2) M) ++ (tW g (ma 1) ta T ++ (uW g (ma 2) sa U ++ (xW g (ma 3) xa X ++ pW g p0 a0 P0)))) (st1 := [.int (iI ((-2)))]) C hl.1 hW hA (c_X4_refused l g o ma M (-2) (by assumption) (show rg (-2) by omega)) v_X4_90 rfl [0, 1] [2, 3, 4, 5, 6, 7, 8, 9, 10, 11, 12, 13, 14, 15, 16, 17, 18, 19, 20, 21, 22, 23, 24] [23, 24, 0, 1, 2, 3, 4, 5, 6, 7, 8, 9, 10, 11, 12, 13, 14, 15, 16, 17, 18, 19, 20, 21, 22] rfl rfl (by decide) (by decide) rfl rfl 0 rfl rfl rfl (by decide) (by decide) (Nat.le_of_ble_eq_true rfl) dX4_goes_31 rfl rfl (fun H locs hW => ?_)
    have hE : fGoes P0 e w a M = ((-2), fRef (-2) M) := if_neg (fun h => hc1 h.1)
    exact MW_iret C hAe hrt hlk hW dX4_goes_34 (iw (by rw [hE])) (by rw [hE])
  · skip
    refine r_iload_n C dX4_goes_21 hl 4 rfl ?_
    refine r_callRS (rest := []) (r := .int (iI (bI (0 ≤ a ∧ a < 8)))) C hl.1 (c_X4_isFact l g  a (show rg a by omega)) v_X4_111 rfl (fun k q h => by simp at h) (by decide) (by decide) (Nat.le_of_ble_eq_true rfl) dX4_goes_22 rfl ?_
    refine r_ifb_ne C 35 dX4_goes_25 (by decide) (fun hc2 => ?_) (fun hc2 => ?_)
    · skip
      have hwr : w < 3 := by
        obtain ⟨he9, hw8, hw9⟩ := hc1
        split at hw9 <;> omega
      refine r_aload C dX4_goes_35 hl 0 rfl ?_
      refine r_iload_n C dX4_goes_37 hl 2 rfl ?_
      refine r_iload_n C dX4_goes_38 hl 3 rfl ?_
      refine r_iload_n C dX4_goes_39 hl 4 rfl ?_
      refine r_callR (rest := []) (r := .int (iI (pReach P0 e w a))) C hl.1 (c_X0_reach l g p0 a0 P0 e w a (show 0 ≤ e ∧ e < 32 by omega) (show 0 ≤ w ∧ w < 3 by omega) (show 0 ≤ a ∧ a < 8 by omega)) v_X4_114 rfl (hW.1.sub [16, 17, 18, 19, 20, 21, 22, 23, 24] rfl) 0 rfl rfl rfl (by decide) (by decide) (Nat.le_of_ble_eq_true rfl) dX4_goes_40 rfl ?_
      have hq3 := pReach_r P0 e w a
      have hE : fGoes P0 e w a M = (pReach P0 e w a, M) := if_pos ⟨hc1, hc2⟩
      exact MW_iret C hAe hrt hlk hW dX4_goes_43 (iw (by rw [hE])) (by rw [hE])
    · skip
      refine r_aload_n C dX4_goes_28 hl 1 rfl ?_
      refine r_bipush (z := -2) C dX4_goes_29 rfl ?_
      refine r_callW (rest := []) (r := some (.int (iI ((-2))))) (wr := tW g (ma 1) ta T ++ (uW g (ma 2) sa U ++ (xW g (ma 3) xa X ++ pW g p0 a0 P0))) (ws2 := fW g o ma (fRef (-2) M) ++ (tW g (ma 1) ta T ++ (uW g (ma 2) sa U ++ (xW g (ma 3) xa X ++ pW g p0 a0 P0)))) (st1 := [.int (iI ((-2)))]) C hl.1 hW hA (c_X4_refused l g o ma M (-2) (by assumption) (show rg (-2) by omega)) v_X4_90 rfl [0, 1] [2, 3, 4, 5, 6, 7, 8, 9, 10, 11, 12, 13, 14, 15, 16, 17, 18, 19, 20, 21, 22, 23, 24] [23, 24, 0, 1, 2, 3, 4, 5, 6, 7, 8, 9, 10, 11, 12, 13, 14, 15, 16, 17, 18, 19, 20, 21, 22] rfl rfl (by decide) (by decide) rfl rfl 0 rfl rfl rfl (by decide) (by decide) (Nat.le_of_ble_eq_true rfl) dX4_goes_31 rfl rfl (fun H locs hW => ?_)
      have hE : fGoes P0 e w a M = ((-2), fRef (-2) M) := if_neg (fun h => hc2 h.2)
      exact MW_iret C hAe hrt hlk hW dX4_goes_34 (iw (by rw [hE])) (by rw [hE])
set_option maxHeartbeats 4000000 in
set_option maxRecDepth 100000 in
theorem c_X4_count (l : Launch) (g : GG) (o : Nat) (ma : Nat → Nat) (M : Mf) (ta : Nat → Nat) (T : Tb) (sa : Nat → Nat) (U : Sp) (xa : Nat → Nat) (X : Tx) (p0 : Nat) (a0 : Nat → Nat) (P0 : Pg) (w : Int) (hM : fOk M) (hT : tOk T) (hU : uOk U) (hX : xOk X) (hP0 : pOk P0) (hr0 : f_rows M (f_now M).toNat = some p0) (h_w : rg w) : MW l g yX4_count cX4_count 3 (some .int) 6 172 [.ref (o), .int (iI (w))] (fW g o ma M ++ (tW g (ma 1) ta T ++ (uW g (ma 2) sa U ++ (xW g (ma 3) xa X ++ pW g p0 a0 P0)))) (fW g o ma ((fCount P0 w M T).2.1) ++ (tW g (ma 1) ta ((fCount P0 w M T).2.2) ++ (uW g (ma 2) sa U ++ (xW g (ma 3) xa X ++ pW g p0 a0 P0)))) (some (.int (iI ((fCount P0 w M T).1)))) := by
  refine MW_start (by decide) (Nat.le_of_ble_eq_true rfl) ?_
  intro zp ze zs zm zb zt zc A hAe C hrt hlk hW ls hl
  have hA : ∀ q, zs.heap.size ≤ q → A q := fun q h => by rw [hAe]; exact Or.inr h
  have hl : lv_has ls 3 [(0, .ref (o)), (1, .int (iI (w)))] := hl
  obtain ⟨hM_now, hM_states, hM_timesBad, hM_timesNo, hM_timesFull⟩ := id hM
  obtain ⟨hT_ready, hT_seedProc, hT_seedFacts, hT_size, hT_seen, hT_keys, hT_placeOf, hT_before, hT_through, hT_way, hT_inner, hT_sites, hT_siteCount⟩ := id hT
  obtain ⟨hU_ready, hU_reached⟩ := id hU
  obtain ⟨hX_length, hX_orders, hX_bytes, hX_parts, hX_place⟩ := id hX
  obtain ⟨hP0_procs, hP0_nodes, hP0_edges, hP0_start, hP0_entryOf, hP0_exitOf, hP0_procOf, hP0_kindOf, hP0_from, hP0_to, hP0_callee⟩ := id hP0
  refine r_iload_n C dX4_count_0 hl 1 rfl ?_
  refine r_if_lt C 9 dX4_count_1 (by decide) (by omega) (fun hc1 => ?_) (fun hc1 => ?_)
  · skip
    refine r_aload_n C dX4_count_9 hl 0 rfl ?_
    refine r_bipush (z := -2) C dX4_count_10 rfl ?_
    refine r_callW (rest := []) (r := some (.int (iI ((-2))))) (wr := tW g (ma 1) ta T ++ (uW g (ma 2) sa U ++ (xW g (ma 3) xa X ++ pW g p0 a0 P0))) (ws2 := fW g o ma (fRef (-2) M) ++ (tW g (ma 1) ta T ++ (uW g (ma 2) sa U ++ (xW g (ma 3) xa X ++ pW g p0 a0 P0)))) (st1 := [.int (iI ((-2)))]) C hl.1 hW hA (c_X4_refused l g o ma M (-2) (by assumption) (show rg (-2) by omega)) v_X4_90 rfl [0, 1] [2, 3, 4, 5, 6, 7, 8, 9, 10, 11, 12, 13, 14, 15, 16, 17, 18, 19, 20, 21, 22, 23, 24] [23, 24, 0, 1, 2, 3, 4, 5, 6, 7, 8, 9, 10, 11, 12, 13, 14, 15, 16, 17, 18, 19, 20, 21, 22] rfl rfl (by decide) (by decide) rfl rfl 0 rfl rfl rfl (by decide) (by decide) (Nat.le_of_ble_eq_true rfl) dX4_count_12 rfl rfl (fun H locs hW => ?_)
    have hE : fCount P0 w M T = ((-2), fRef (-2) M, T) := by unfold fCount; rw [if_neg (show ¬ (0 ≤ w ∧ w ≤ 5) by omega)]; (try rw [hw9])
    exact MW_iret C hAe hrt hlk hW dX4_count_15 (iw (by rw [hE])) (by rw [hE])
  · skip
    refine r_iload_n C dX4_count_4 hl 1 rfl ?_
    refine r_iconst (z := 5) C dX4_count_5 rfl ?_
    refine r_icmp_le C 16 dX4_count_6 (by decide) (by omega) (by omega) (fun hc2 => ?_) (fun hc2 => ?_)
    · skip
      refine r_aload_n C dX4_count_16 hl 0 rfl ?_
      refine r_get (v := .ref (ma 0)) C f_X4_11 hW.1 0 rfl rfl dX4_count_17 ?_
      refine r_aload_n C dX4_count_20 hl 0 rfl ?_
      refine r_get (v := .int (iI (f_now M))) C f_X4_15 hW.1 0 rfl rfl dX4_count_21 ?_
      refine r_aald (f := f_rows M) (b := p0) C hW.1 1 rfl (Nat.le_of_ble_eq_true rfl) (by omega) hr0 dX4_count_24 ?_
      refine r_astore_n C [(2, .ref (p0)), (0, .ref (o)), (1, .int (iI (w)))] dX4_count_25 hl (by decide) rfl (fun ls hl => ?_)
      refine r_iload_n C dX4_count_26 hl 2 rfl ?_
      refine r_iconst (z := 4) C dX4_count_27 rfl ?_
      refine r_icmp_lt C 44 dX4_count_28 (by decide) (by omega) (by omega) (fun hc3 => ?_) (fun hc3 => ?_)
      · skip
        refine r_aload_n C dX4_count_44 hl 1 rfl ?_
        refine r_aload_n C dX4_count_45 hl 0 rfl ?_
        refine r_iload_n C dX4_count_46 hl 2 rfl ?_
        refine r_callR (rest := []) (r := .int (iI (fCounted P0 T w))) C hl.1 (c_X4_counted l g o ma M  ta T p0 a0 P0 w (by assumption) (by assumption) (show rg w by omega)) v_X4_124 rfl (hW.1.sub [0, 1, 2, 3, 4, 5, 6, 7, 8, 9, 10, 16, 17, 18, 19, 20, 21, 22, 23, 24] rfl) 0 rfl rfl rfl (by decide) (by decide) (Nat.le_of_ble_eq_true rfl) dX4_count_47 rfl ?_
        have hq4 := fCounted_q P0 T w (by assumption) (by assumption)
        have hE : fCount P0 w M T = (fCounted P0 T w, M, T) := by unfold fCount; rw [if_pos (show 0 ≤ w ∧ w ≤ 5 by omega)]; (try rw [if_pos (show w < 4 by omega)])
        exact MW_iret C hAe hrt hlk hW dX4_count_50 (iw (by rw [hE])) (by rw [hE])
      · skip
        refine r_aload_n C dX4_count_31 hl 1 rfl ?_
        refine r_get (v := .ref (ma 1)) C f_X4_25 hW.1 0 rfl rfl dX4_count_32 ?_
        refine r_aload_n C dX4_count_35 hl 0 rfl ?_
        refine r_iconst (z := 0) C dX4_count_36 rfl ?_
        refine r_aload_n C dX4_count_37 hl 0 rfl ?_
        refine r_get (v := .int (iI (p_start P0))) C f_X4_117 hW.1 16 rfl rfl dX4_count_38 ?_
        refine r_callW (rest := []) (r := none) (wr := fW g o ma M ++ (uW g (ma 2) sa U ++ xW g (ma 3) xa X)) (ws2 := fW g o ma M ++ (tW g (ma 1) ta (tFill P0 0 (p_start P0) T) ++ (uW g (ma 2) sa U ++ (xW g (ma 3) xa X ++ pW g p0 a0 P0)))) (st1 := []) C hl.1 hW hA (c_X2_fill l g (ma 1) ta T p0 a0 P0 0 (p_start P0) (by assumption) (by assumption) (show 0 ≤ 0 ∧ 0 < 5 by omega) (show 0 ≤ (p_start P0) ∧ (p_start P0) < 256 by omega)) v_X4_120 rfl [2, 3, 4, 5, 6, 7, 8, 9, 10, 16, 17, 18, 19, 20, 21, 22, 23, 24] [0, 1, 11, 12, 13, 14, 15] [0, 1, 7, 8, 9, 10, 11, 12, 13, 14, 15, 2, 3, 4, 5, 6, 16, 17, 18, 19, 20, 21, 22, 23, 24] rfl rfl (by decide) (by decide) rfl rfl 0 rfl rfl rfl (by decide) (by decide) (Nat.le_of_ble_eq_true rfl) dX4_count_41 rfl rfl (fun H locs hW => ?_)
        have hok5 : tOk (tFill P0 0 (p_start P0) T) := tFill_ok (by assumption) (by assumption) (by omega) (by omega)
        refine r_aload_n C dX4_count_44 hl 1 rfl ?_
        refine r_aload_n C dX4_count_45 hl 0 rfl ?_
        refine r_iload_n C dX4_count_46 hl 2 rfl ?_
        refine r_callR (rest := []) (r := .int (iI (fCounted P0 (tFill P0 0 (p_start P0) T) w))) C hl.1 (c_X4_counted l g o ma M  ta (tFill P0 0 (p_start P0) T) p0 a0 P0 w (by assumption) (by assumption) (show rg w by omega)) v_X4_124 rfl (hW.1.sub [0, 1, 2, 3, 4, 5, 6, 7, 8, 9, 10, 16, 17, 18, 19, 20, 21, 22, 23, 24] rfl) 0 rfl rfl rfl (by decide) (by decide) (Nat.le_of_ble_eq_true rfl) dX4_count_47 rfl ?_
        have hq6 := fCounted_q P0 (tFill P0 0 (p_start P0) T) w (by assumption) (by assumption)
        have hE : fCount P0 w M T = (fCounted P0 (tFill P0 0 (p_start P0) T) w, M, tFill P0 0 (p_start P0) T) := by unfold fCount; rw [if_pos (show 0 ≤ w ∧ w ≤ 5 by omega)]; (try rw [if_neg (show ¬ w < 4 by omega)])
        exact MW_iret C hAe hrt hlk hW dX4_count_50 (iw (by rw [hE])) (by rw [hE])
    · skip
      refine r_aload_n C dX4_count_9 hl 0 rfl ?_
      refine r_bipush (z := -2) C dX4_count_10 rfl ?_
      refine r_callW (rest := []) (r := some (.int (iI ((-2))))) (wr := tW g (ma 1) ta T ++ (uW g (ma 2) sa U ++ (xW g (ma 3) xa X ++ pW g p0 a0 P0))) (ws2 := fW g o ma (fRef (-2) M) ++ (tW g (ma 1) ta T ++ (uW g (ma 2) sa U ++ (xW g (ma 3) xa X ++ pW g p0 a0 P0)))) (st1 := [.int (iI ((-2)))]) C hl.1 hW hA (c_X4_refused l g o ma M (-2) (by assumption) (show rg (-2) by omega)) v_X4_90 rfl [0, 1] [2, 3, 4, 5, 6, 7, 8, 9, 10, 11, 12, 13, 14, 15, 16, 17, 18, 19, 20, 21, 22, 23, 24] [23, 24, 0, 1, 2, 3, 4, 5, 6, 7, 8, 9, 10, 11, 12, 13, 14, 15, 16, 17, 18, 19, 20, 21, 22] rfl rfl (by decide) (by decide) rfl rfl 0 rfl rfl rfl (by decide) (by decide) (Nat.le_of_ble_eq_true rfl) dX4_count_12 rfl rfl (fun H locs hW => ?_)
      have hE : fCount P0 w M T = ((-2), fRef (-2) M, T) := by unfold fCount; rw [if_neg (show ¬ (0 ≤ w ∧ w ≤ 5) by omega)]; (try rw [hw9])
      exact MW_iret C hAe hrt hlk hW dX4_count_15 (iw (by rw [hE])) (by rw [hE])
set_option maxHeartbeats 4000000 in
set_option maxRecDepth 100000 in
theorem c_X4_holds (l : Launch) (g : GG) (o : Nat) (ma : Nat → Nat) (M : Mf) (ta : Nat → Nat) (T : Tb) (sa : Nat → Nat) (U : Sp) (xa : Nat → Nat) (X : Tx) (p0 : Nat) (a0 : Nat → Nat) (P0 : Pg) (n : Int) (hM : fOk M) (hT : tOk T) (hU : uOk U) (hX : xOk X) (hP0 : pOk P0) (hr0 : f_rows M (f_now M).toNat = some p0) (h_n : rg n) : MW l g yX4_holds cX4_holds 3 (some .int) 6 172 [.ref (o), .int (iI (n))] (fW g o ma M ++ (tW g (ma 1) ta T ++ (uW g (ma 2) sa U ++ (xW g (ma 3) xa X ++ pW g p0 a0 P0)))) (fW g o ma ((fHolds P0 n M T).2.1) ++ (tW g (ma 1) ta ((fHolds P0 n M T).2.2) ++ (uW g (ma 2) sa U ++ (xW g (ma 3) xa X ++ pW g p0 a0 P0)))) (some (.int (iI ((fHolds P0 n M T).1)))) := by
  refine MW_start (by decide) (Nat.le_of_ble_eq_true rfl) ?_
  intro zp ze zs zm zb zt zc A hAe C hrt hlk hW ls hl
  have hA : ∀ q, zs.heap.size ≤ q → A q := fun q h => by rw [hAe]; exact Or.inr h
  have hl : lv_has ls 3 [(0, .ref (o)), (1, .int (iI (n)))] := hl
  obtain ⟨hM_now, hM_states, hM_timesBad, hM_timesNo, hM_timesFull⟩ := id hM
  obtain ⟨hT_ready, hT_seedProc, hT_seedFacts, hT_size, hT_seen, hT_keys, hT_placeOf, hT_before, hT_through, hT_way, hT_inner, hT_sites, hT_siteCount⟩ := id hT
  obtain ⟨hU_ready, hU_reached⟩ := id hU
  obtain ⟨hX_length, hX_orders, hX_bytes, hX_parts, hX_place⟩ := id hX
  obtain ⟨hP0_procs, hP0_nodes, hP0_edges, hP0_start, hP0_entryOf, hP0_exitOf, hP0_procOf, hP0_kindOf, hP0_from, hP0_to, hP0_callee⟩ := id hP0
  refine r_aload_n C dX4_holds_0 hl 0 rfl ?_
  refine r_get (v := .ref (ma 0)) C f_X4_11 hW.1 0 rfl rfl dX4_holds_1 ?_
  refine r_aload_n C dX4_holds_4 hl 0 rfl ?_
  refine r_get (v := .int (iI (f_now M))) C f_X4_15 hW.1 0 rfl rfl dX4_holds_5 ?_
  refine r_aald (f := f_rows M) (b := p0) C hW.1 1 rfl (Nat.le_of_ble_eq_true rfl) (by omega) hr0 dX4_holds_8 ?_
  refine r_astore_n C [(2, .ref (p0)), (0, .ref (o)), (1, .int (iI (n)))] dX4_holds_9 hl (by decide) rfl (fun ls hl => ?_)
  refine r_aload_n C dX4_holds_10 hl 0 rfl ?_
  refine r_iload_n C dX4_holds_11 hl 2 rfl ?_
  refine r_callR (rest := []) (r := .int (iI (bI (0 ≤ n ∧ n < (p_nodes P0))))) C hl.1 (c_X0_isNode l g p0 a0 P0 n (by assumption) (show rg n by omega)) v_X4_86 rfl (hW.1.sub [16, 17, 18, 19, 20, 21, 22, 23, 24] rfl) 0 rfl rfl rfl (by decide) (by decide) (Nat.le_of_ble_eq_true rfl) dX4_holds_12 rfl ?_
  refine r_ifb_ne C 25 dX4_holds_15 (by decide) (fun hc1 => ?_) (fun hc1 => ?_)
  · skip
    refine r_aload_n C dX4_holds_25 hl 1 rfl ?_
    refine r_get (v := .ref (ma 1)) C f_X4_25 hW.1 0 rfl rfl dX4_holds_26 ?_
    refine r_aload_n C dX4_holds_29 hl 0 rfl ?_
    refine r_iconst (z := 0) C dX4_holds_30 rfl ?_
    refine r_aload_n C dX4_holds_31 hl 0 rfl ?_
    refine r_get (v := .int (iI (p_start P0))) C f_X4_117 hW.1 16 rfl rfl dX4_holds_32 ?_
    refine r_callW (rest := []) (r := none) (wr := fW g o ma M ++ (uW g (ma 2) sa U ++ xW g (ma 3) xa X)) (ws2 := fW g o ma M ++ (tW g (ma 1) ta (tFill P0 0 (p_start P0) T) ++ (uW g (ma 2) sa U ++ (xW g (ma 3) xa X ++ pW g p0 a0 P0)))) (st1 := []) C hl.1 hW hA (c_X2_fill l g (ma 1) ta T p0 a0 P0 0 (p_start P0) (by assumption) (by assumption) (show 0 ≤ 0 ∧ 0 < 5 by omega) (show 0 ≤ (p_start P0) ∧ (p_start P0) < 256 by omega)) v_X4_120 rfl [2, 3, 4, 5, 6, 7, 8, 9, 10, 16, 17, 18, 19, 20, 21, 22, 23, 24] [0, 1, 11, 12, 13, 14, 15] [0, 1, 7, 8, 9, 10, 11, 12, 13, 14, 15, 2, 3, 4, 5, 6, 16, 17, 18, 19, 20, 21, 22, 23, 24] rfl rfl (by decide) (by decide) rfl rfl 0 rfl rfl rfl (by decide) (by decide) (Nat.le_of_ble_eq_true rfl) dX4_holds_35 rfl rfl (fun H locs hW => ?_)
    have hok2 : tOk (tFill P0 0 (p_start P0) T) := tFill_ok (by assumption) (by assumption) (by omega) (by omega)
    refine r_aload_n C dX4_holds_38 hl 1 rfl ?_
    refine r_get (v := .ref (ma 1)) C f_X4_25 hW.1 0 rfl rfl dX4_holds_39 ?_
    refine r_iload_n C dX4_holds_42 hl 2 rfl ?_
    refine r_callR (rest := []) (r := .int (iI (tFacts (tFill P0 0 (p_start P0) T) n))) C hl.1 (c_X2_factsAt l g (ma 1) ta (tFill P0 0 (p_start P0) T) n (by assumption) (show 0 ≤ n ∧ n < 24 by omega)) v_X4_128 rfl (hW.1.sub [2, 3, 4, 5, 6, 7, 8, 9, 10] rfl) 0 rfl rfl rfl (by decide) (by decide) (Nat.le_of_ble_eq_true rfl) dX4_holds_43 rfl ?_
    have hE : fHolds P0 n M T = (tFacts (tFill P0 0 (p_start P0) T) n, M, tFill P0 0 (p_start P0) T) := by unfold fHolds; (repeat' split) <;> first | rfl | (exfalso; omega)
    exact MW_iret C hAe hrt hlk hW dX4_holds_46 (iw (by rw [hE])) (by rw [hE])
  · skip
    refine r_aload_n C dX4_holds_18 hl 1 rfl ?_
    refine r_bipush (z := -2) C dX4_holds_19 rfl ?_
    refine r_callW (rest := []) (r := some (.int (iI ((-2))))) (wr := tW g (ma 1) ta T ++ (uW g (ma 2) sa U ++ (xW g (ma 3) xa X ++ pW g p0 a0 P0))) (ws2 := fW g o ma (fRef (-2) M) ++ (tW g (ma 1) ta T ++ (uW g (ma 2) sa U ++ (xW g (ma 3) xa X ++ pW g p0 a0 P0)))) (st1 := [.int (iI ((-2)))]) C hl.1 hW hA (c_X4_refused l g o ma M (-2) (by assumption) (show rg (-2) by omega)) v_X4_90 rfl [0, 1] [2, 3, 4, 5, 6, 7, 8, 9, 10, 11, 12, 13, 14, 15, 16, 17, 18, 19, 20, 21, 22, 23, 24] [23, 24, 0, 1, 2, 3, 4, 5, 6, 7, 8, 9, 10, 11, 12, 13, 14, 15, 16, 17, 18, 19, 20, 21, 22] rfl rfl (by decide) (by decide) rfl rfl 0 rfl rfl rfl (by decide) (by decide) (Nat.le_of_ble_eq_true rfl) dX4_holds_21 rfl rfl (fun H locs hW => ?_)
    have hE : fHolds P0 n M T = ((-2), fRef (-2) M, T) := by unfold fHolds; (repeat' split) <;> first | rfl | (exfalso; omega)
    exact MW_iret C hAe hrt hlk hW dX4_holds_24 (iw (by rw [hE])) (by rw [hE])
set_option maxHeartbeats 4000000 in
set_option maxRecDepth 100000 in
theorem c_X4_loose (l : Launch) (g : GG) (o : Nat) (ma : Nat → Nat) (M : Mf) (ta : Nat → Nat) (T : Tb) (sa : Nat → Nat) (U : Sp) (xa : Nat → Nat) (X : Tx) (p0 : Nat) (a0 : Nat → Nat) (P0 : Pg) (n : Int) (hM : fOk M) (hT : tOk T) (hU : uOk U) (hX : xOk X) (hP0 : pOk P0) (hr0 : f_rows M (f_now M).toNat = some p0) (h_n : rg n) : MW l g yX4_loose cX4_loose 3 (some .int) 4 98 [.ref (o), .int (iI (n))] (fW g o ma M ++ (tW g (ma 1) ta T ++ (uW g (ma 2) sa U ++ (xW g (ma 3) xa X ++ pW g p0 a0 P0)))) (fW g o ma ((fLoose P0 n M U).2.1) ++ (tW g (ma 1) ta T ++ (uW g (ma 2) sa ((fLoose P0 n M U).2.2) ++ (xW g (ma 3) xa X ++ pW g p0 a0 P0)))) (some (.int (iI ((fLoose P0 n M U).1)))) := by
  refine MW_start (by decide) (Nat.le_of_ble_eq_true rfl) ?_
  intro zp ze zs zm zb zt zc A hAe C hrt hlk hW ls hl
  have hA : ∀ q, zs.heap.size ≤ q → A q := fun q h => by rw [hAe]; exact Or.inr h
  have hl : lv_has ls 3 [(0, .ref (o)), (1, .int (iI (n)))] := hl
  obtain ⟨hM_now, hM_states, hM_timesBad, hM_timesNo, hM_timesFull⟩ := id hM
  obtain ⟨hT_ready, hT_seedProc, hT_seedFacts, hT_size, hT_seen, hT_keys, hT_placeOf, hT_before, hT_through, hT_way, hT_inner, hT_sites, hT_siteCount⟩ := id hT
  obtain ⟨hU_ready, hU_reached⟩ := id hU
  obtain ⟨hX_length, hX_orders, hX_bytes, hX_parts, hX_place⟩ := id hX
  obtain ⟨hP0_procs, hP0_nodes, hP0_edges, hP0_start, hP0_entryOf, hP0_exitOf, hP0_procOf, hP0_kindOf, hP0_from, hP0_to, hP0_callee⟩ := id hP0
  refine r_aload_n C dX4_loose_0 hl 0 rfl ?_
  refine r_get (v := .ref (ma 0)) C f_X4_11 hW.1 0 rfl rfl dX4_loose_1 ?_
  refine r_aload_n C dX4_loose_4 hl 0 rfl ?_
  refine r_get (v := .int (iI (f_now M))) C f_X4_15 hW.1 0 rfl rfl dX4_loose_5 ?_
  refine r_aald (f := f_rows M) (b := p0) C hW.1 1 rfl (Nat.le_of_ble_eq_true rfl) (by omega) hr0 dX4_loose_8 ?_
  refine r_astore_n C [(2, .ref (p0)), (0, .ref (o)), (1, .int (iI (n)))] dX4_loose_9 hl (by decide) rfl (fun ls hl => ?_)
  refine r_aload_n C dX4_loose_10 hl 0 rfl ?_
  refine r_iload_n C dX4_loose_11 hl 2 rfl ?_
  refine r_callR (rest := []) (r := .int (iI (bI (0 ≤ n ∧ n < (p_nodes P0))))) C hl.1 (c_X0_isNode l g p0 a0 P0 n (by assumption) (show rg n by omega)) v_X4_86 rfl (hW.1.sub [16, 17, 18, 19, 20, 21, 22, 23, 24] rfl) 0 rfl rfl rfl (by decide) (by decide) (Nat.le_of_ble_eq_true rfl) dX4_loose_12 rfl ?_
  refine r_ifb_ne C 25 dX4_loose_15 (by decide) (fun hc1 => ?_) (fun hc1 => ?_)
  · skip
    refine r_aload_n C dX4_loose_25 hl 1 rfl ?_
    refine r_get (v := .ref (ma 2)) C f_X4_32 hW.1 0 rfl rfl dX4_loose_26 ?_
    refine r_aload_n C dX4_loose_29 hl 0 rfl ?_
    refine r_callW (rest := []) (r := none) (wr := fW g o ma M ++ (tW g (ma 1) ta T ++ xW g (ma 3) xa X)) (ws2 := fW g o ma M ++ (tW g (ma 1) ta T ++ (uW g (ma 2) sa (uFill P0 U) ++ (xW g (ma 3) xa X ++ pW g p0 a0 P0)))) (st1 := []) C hl.1 hW hA (c_X1_fill l g (ma 2) sa U p0 a0 P0  (by assumption) (by assumption)) v_X4_131 rfl [11, 12, 16, 17, 18, 19, 20, 21, 22, 23, 24] [0, 1, 2, 3, 4, 5, 6, 7, 8, 9, 10, 13, 14, 15] [0, 1, 2, 3, 4, 5, 6, 7, 8, 9, 10, 14, 15, 11, 12, 13, 16, 17, 18, 19, 20, 21, 22, 23, 24] rfl rfl (by decide) (by decide) rfl rfl 0 rfl rfl rfl (by decide) (by decide) (Nat.le_of_ble_eq_true rfl) dX4_loose_30 rfl rfl (fun H locs hW => ?_)
    have hUF : uOk (uFill P0 U) := uFill_ok hP0 hU
    obtain ⟨hUF_ready, hUF_reached⟩ := id hUF
    refine r_aload_n C dX4_loose_33 hl 1 rfl ?_
    refine r_get (v := .ref (ma 2)) C f_X4_32 hW.1 0 rfl rfl dX4_loose_34 ?_
    refine r_get (v := .ref (sa 0)) C f_X4_134 hW.1 11 rfl rfl dX4_loose_37 ?_
    refine r_iload_n C dX4_loose_40 hl 2 rfl ?_
    refine r_iald (f := u_reached (uFill P0 U)) C hW.1 12 rfl (Nat.le_of_ble_eq_true rfl) (by omega) dX4_loose_41 ?_
    have hr2 := hUF_reached n (by omega) (by omega)
    have hE : fLoose P0 n M U = ((u_reached (uFill P0 U)) n, M, uFill P0 U) := by unfold fLoose; (repeat' split) <;> first | rfl | (exfalso; omega)
    exact MW_iret C hAe hrt hlk hW dX4_loose_42 (iw (by rw [hE])) (by rw [hE])
  · skip
    refine r_aload_n C dX4_loose_18 hl 1 rfl ?_
    refine r_bipush (z := -2) C dX4_loose_19 rfl ?_
    refine r_callW (rest := []) (r := some (.int (iI ((-2))))) (wr := tW g (ma 1) ta T ++ (uW g (ma 2) sa U ++ (xW g (ma 3) xa X ++ pW g p0 a0 P0))) (ws2 := fW g o ma (fRef (-2) M) ++ (tW g (ma 1) ta T ++ (uW g (ma 2) sa U ++ (xW g (ma 3) xa X ++ pW g p0 a0 P0)))) (st1 := [.int (iI ((-2)))]) C hl.1 hW hA (c_X4_refused l g o ma M (-2) (by assumption) (show rg (-2) by omega)) v_X4_90 rfl [0, 1] [2, 3, 4, 5, 6, 7, 8, 9, 10, 11, 12, 13, 14, 15, 16, 17, 18, 19, 20, 21, 22, 23, 24] [23, 24, 0, 1, 2, 3, 4, 5, 6, 7, 8, 9, 10, 11, 12, 13, 14, 15, 16, 17, 18, 19, 20, 21, 22] rfl rfl (by decide) (by decide) rfl rfl 0 rfl rfl rfl (by decide) (by decide) (Nat.le_of_ble_eq_true rfl) dX4_loose_21 rfl rfl (fun H locs hW => ?_)
    have hE : fLoose P0 n M U = ((-2), fRef (-2) M, U) := by unfold fLoose; (repeat' split) <;> first | rfl | (exfalso; omega)
    exact MW_iret C hAe hrt hlk hW dX4_loose_24 (iw (by rw [hE])) (by rw [hE])
set_option maxHeartbeats 4000000 in
set_option maxRecDepth 100000 in
theorem c_X4_origins (l : Launch) (g : GG) (o : Nat) (ma : Nat → Nat) (M : Mf) (ta : Nat → Nat) (T : Tb) (sa : Nat → Nat) (U : Sp) (xa : Nat → Nat) (X : Tx) (p0 : Nat) (a0 : Nat → Nat) (P0 : Pg) (n f : Int) (hM : fOk M) (hT : tOk T) (hU : uOk U) (hX : xOk X) (hP0 : pOk P0) (hr0 : f_rows M (f_now M).toNat = some p0) (h_n : rg n) (h_f : rg f) : MW l g yX4_origins cX4_origins 6 (some .int) 6 172 [.ref (o), .int (iI (n)), .int (iI (f))] (fW g o ma M ++ (tW g (ma 1) ta T ++ (uW g (ma 2) sa U ++ (xW g (ma 3) xa X ++ pW g p0 a0 P0)))) (fW g o ma ((fOrigins P0 n f M T).2.1) ++ (tW g (ma 1) ta ((fOrigins P0 n f M T).2.2) ++ (uW g (ma 2) sa U ++ (xW g (ma 3) xa X ++ pW g p0 a0 P0)))) (some (.int (iI ((fOrigins P0 n f M T).1)))) := by
  refine MW_start (by decide) (Nat.le_of_ble_eq_true rfl) ?_
  intro zp ze zs zm zb zt zc A hAe C hrt hlk hW ls hl
  have hA : ∀ q, zs.heap.size ≤ q → A q := fun q h => by rw [hAe]; exact Or.inr h
  have hl : lv_has ls 6 [(0, .ref (o)), (1, .int (iI (n))), (2, .int (iI (f)))] := hl
  obtain ⟨hM_now, hM_states, hM_timesBad, hM_timesNo, hM_timesFull⟩ := id hM
  obtain ⟨hT_ready, hT_seedProc, hT_seedFacts, hT_size, hT_seen, hT_keys, hT_placeOf, hT_before, hT_through, hT_way, hT_inner, hT_sites, hT_siteCount⟩ := id hT
  obtain ⟨hU_ready, hU_reached⟩ := id hU
  obtain ⟨hX_length, hX_orders, hX_bytes, hX_parts, hX_place⟩ := id hX
  obtain ⟨hP0_procs, hP0_nodes, hP0_edges, hP0_start, hP0_entryOf, hP0_exitOf, hP0_procOf, hP0_kindOf, hP0_from, hP0_to, hP0_callee⟩ := id hP0
  refine r_aload_n C dX4_origins_0 hl 0 rfl ?_
  refine r_get (v := .ref (ma 0)) C f_X4_11 hW.1 0 rfl rfl dX4_origins_1 ?_
  refine r_aload_n C dX4_origins_4 hl 0 rfl ?_
  refine r_get (v := .int (iI (f_now M))) C f_X4_15 hW.1 0 rfl rfl dX4_origins_5 ?_
  refine r_aald (f := f_rows M) (b := p0) C hW.1 1 rfl (Nat.le_of_ble_eq_true rfl) (by omega) hr0 dX4_origins_8 ?_
  refine r_astore_n C [(3, .ref (p0)), (0, .ref (o)), (1, .int (iI (n))), (2, .int (iI (f)))] dX4_origins_9 hl (by decide) rfl (fun ls hl => ?_)
  refine r_aload_n C dX4_origins_10 hl 0 rfl ?_
  refine r_iload_n C dX4_origins_11 hl 2 rfl ?_
  refine r_callR (rest := []) (r := .int (iI (bI (0 ≤ n ∧ n < (p_nodes P0))))) C hl.1 (c_X0_isNode l g p0 a0 P0 n (by assumption) (show rg n by omega)) v_X4_86 rfl (hW.1.sub [16, 17, 18, 19, 20, 21, 22, 23, 24] rfl) 0 rfl rfl rfl (by decide) (by decide) (Nat.le_of_ble_eq_true rfl) dX4_origins_12 rfl ?_
  refine r_ifb_eq C 25 dX4_origins_15 (by decide) (fun hc1 => ?_) (fun hc1 => ?_)
  · skip
    refine r_aload_n C dX4_origins_25 hl 1 rfl ?_
    refine r_bipush (z := -2) C dX4_origins_26 rfl ?_
    refine r_callW (rest := []) (r := some (.int (iI ((-2))))) (wr := tW g (ma 1) ta T ++ (uW g (ma 2) sa U ++ (xW g (ma 3) xa X ++ pW g p0 a0 P0))) (ws2 := fW g o ma (fRef (-2) M) ++ (tW g (ma 1) ta T ++ (uW g (ma 2) sa U ++ (xW g (ma 3) xa X ++ pW g p0 a0 P0)))) (st1 := [.int (iI ((-2)))]) C hl.1 hW hA (c_X4_refused l g o ma M (-2) (by assumption) (show rg (-2) by omega)) v_X4_90 rfl [0, 1] [2, 3, 4, 5, 6, 7, 8, 9, 10, 11, 12, 13, 14, 15, 16, 17, 18, 19, 20, 21, 22, 23, 24] [23, 24, 0, 1, 2, 3, 4, 5, 6, 7, 8, 9, 10, 11, 12, 13, 14, 15, 16, 17, 18, 19, 20, 21, 22] rfl rfl (by decide) (by decide) rfl rfl 0 rfl rfl rfl (by decide) (by decide) (Nat.le_of_ble_eq_true rfl) dX4_origins_28 rfl rfl (fun H locs hW => ?_)
    have hE : fOrigins P0 n f M T = ((-2), fRef (-2) M, T) := by unfold fOrigins; (repeat' split) <;> first | rfl | (exfalso; omega)
    exact MW_iret C hAe hrt hlk hW dX4_origins_31 (iw (by rw [hE])) (by rw [hE])
  · skip
    refine r_iload_n C dX4_origins_18 hl 3 rfl ?_
    refine r_callRS (rest := []) (r := .int (iI (bI (0 ≤ f ∧ f < 8)))) C hl.1 (c_X4_isFact l g  f (show rg f by omega)) v_X4_111 rfl (fun k q h => by simp at h) (by decide) (by decide) (Nat.le_of_ble_eq_true rfl) dX4_origins_19 rfl ?_
    refine r_ifb_ne C 32 dX4_origins_22 (by decide) (fun hc2 => ?_) (fun hc2 => ?_)
    · skip
      refine r_iconst (z := 0) C dX4_origins_32 rfl ?_
      refine r_istore C [(4, .int (iI (0))), (3, .ref (p0)), (0, .ref (o)), (1, .int (iI (n))), (2, .int (iI (f)))] dX4_origins_33 hl (by decide) rfl (fun ls hl => ?_)
      refine r_iconst (z := 0) C dX4_origins_35 rfl ?_
      refine r_istore C [(5, .int (iI (0))), (4, .int (iI (0))), (3, .ref (p0)), (0, .ref (o)), (1, .int (iI (n))), (2, .int (iI (f)))] dX4_origins_36 hl (by decide) rfl (fun ls hl => ?_)
      have hloop38 : ∀ (k38 : Nat) (a r : Int) (S : Tb) (hkk : a + k38 = 8) (ha : 0 ≤ a) (hr9 : 0 ≤ r ∧ r < 256) (hSo : tOk S) (hq : it (fOrigF P0 n f) 8 0 (0, T) = it (fOrigF P0 n f) k38 a (r, S)) (H : Heap) (locs : List Loc) (ls : Array Slot), HW g A zs.heap (fW g o ma M ++ (tW g (ma 1) ta S ++ (uW g (ma 2) sa U ++ (xW g (ma 3) xa X ++ pW g p0 a0 P0)))) H locs → lv_has ls 6 [(0, .ref (o)), (1, .int (iI (n))), (2, .int (iI (f))), (3, .ref (p0)), (4, .int (iI (r))), (5, .int (iI (a)))] → W zp l ze (rmm 6 172) zs zm (List.toArray [.ref (o), .int (iI (n)), .int (iI (f))]) zb zt zc H locs 0 0 (MQ zb (QW g (fW g o ma M ++ (tW g (ma 1) ta T ++ (uW g (ma 2) sa U ++ (xW g (ma 3) xa X ++ pW g p0 a0 P0)))) (fW g o ma ((fOrigins P0 n f M T).2.1) ++ (tW g (ma 1) ta ((fOrigins P0 n f M T).2.2) ++ (uW g (ma 2) sa U ++ (xW g (ma 3) xa X ++ pW g p0 a0 P0)))) zs.heap.size (some (.int (iI ((fOrigins P0 n f M T).1))))) (List.toArray [.ref (o), .int (iI (n)), .int (iI (f))]) zs 0 0 A) (F0 zm 38 ls []) := by
        intro k38
        induction k38 with
        | zero =>
          intro a r S hkk ha hr9 hSo hq H locs ls hW hl
          refine r_iload C dX4_origins_38 hl 5 rfl ?_
          refine r_bipush (z := 8) C dX4_origins_40 rfl ?_
          refine r_icmp_ge C 88 dX4_origins_42 (by decide) (by omega) (by omega) (fun hc3 => ?_) (fun hc3 => ?_)
          · skip
            refine r_iload C dX4_origins_88 hl 4 rfl ?_
            have hE : fOrigins P0 n f M T = (r, M, S) := by unfold fOrigins; rw [if_pos ⟨by assumption, by assumption⟩, hq]; rfl
            exact MW_iret C hAe hrt hlk hW dX4_origins_90 (iw (by rw [hE])) (by rw [hE])
          · exact absurd hc3 (by omega)
        | succ k38 ih38 =>
          intro a r S hkk ha hr9 hSo hq H locs ls hW hl
          refine r_iload C dX4_origins_38 hl 5 rfl ?_
          refine r_bipush (z := 8) C dX4_origins_40 rfl ?_
          refine r_icmp_ge C 88 dX4_origins_42 (by decide) (by omega) (by omega) (fun hc4 => ?_) (fun hc4 => ?_)
          · exact absurd hc4 (by omega)
          · skip
            refine r_aload_n C dX4_origins_45 hl 0 rfl ?_
            refine r_get (v := .ref (ma 1)) C f_X4_25 hW.1 0 rfl rfl dX4_origins_46 ?_
            refine r_aload_n C dX4_origins_49 hl 3 rfl ?_
            refine r_iconst (z := 0) C dX4_origins_50 rfl ?_
            refine r_iconst (z := 1) C dX4_origins_51 rfl ?_
            refine r_iload C dX4_origins_52 hl 5 rfl ?_
            refine r_ishl1 C (by omega) (by omega) dX4_origins_54 ?_
            have hb5 := p2_0 a
            have hb6 : p2 a < 256 := p2_8 (by omega)
            refine r_callW (rest := []) (r := none) (wr := fW g o ma M ++ (uW g (ma 2) sa U ++ xW g (ma 3) xa X)) (ws2 := fW g o ma M ++ (tW g (ma 1) ta (tFill P0 0 (p2 a) S) ++ (uW g (ma 2) sa U ++ (xW g (ma 3) xa X ++ pW g p0 a0 P0)))) (st1 := []) C hl.1 hW hA (c_X2_fill l g (ma 1) ta S p0 a0 P0 0 (p2 a) (by assumption) (by assumption) (show 0 ≤ 0 ∧ 0 < 5 by omega) (show 0 ≤ (p2 a) ∧ (p2 a) < 256 by omega)) v_X4_120 rfl [2, 3, 4, 5, 6, 7, 8, 9, 10, 16, 17, 18, 19, 20, 21, 22, 23, 24] [0, 1, 11, 12, 13, 14, 15] [0, 1, 7, 8, 9, 10, 11, 12, 13, 14, 15, 2, 3, 4, 5, 6, 16, 17, 18, 19, 20, 21, 22, 23, 24] rfl rfl (by decide) (by decide) rfl rfl 0 rfl rfl rfl (by decide) (by decide) (Nat.le_of_ble_eq_true rfl) dX4_origins_55 rfl rfl (fun H locs hW => ?_)
            have hok7 : tOk (tFill P0 0 (p2 a) S) := tFill_ok (by assumption) (by assumption) (by omega) (by omega)
            refine r_aload_n C dX4_origins_58 hl 0 rfl ?_
            refine r_get (v := .ref (ma 1)) C f_X4_25 hW.1 0 rfl rfl dX4_origins_59 ?_
            refine r_iload_n C dX4_origins_62 hl 1 rfl ?_
            refine r_callR (rest := []) (r := .int (iI (tFacts (tFill P0 0 (p2 a) S) n))) C hl.1 (c_X2_factsAt l g (ma 1) ta (tFill P0 0 (p2 a) S) n (by assumption) (show 0 ≤ n ∧ n < 24 by omega)) v_X4_128 rfl (hW.1.sub [2, 3, 4, 5, 6, 7, 8, 9, 10] rfl) 0 rfl rfl rfl (by decide) (by decide) (Nat.le_of_ble_eq_true rfl) dX4_origins_63 rfl ?_
            have hfr := tFacts_r (T := tFill P0 0 (p2 a) S) (n := n) (by assumption) (by omega)
            refine r_iload_n C dX4_origins_66 hl 2 rfl ?_
            refine r_callRS (rest := []) (r := .int (iI (bI (tb (tFacts (tFill P0 0 (p2 a) S) n) f = true)))) C hl.1 (c_X4_has l g  (tFacts (tFill P0 0 (p2 a) S) n) f (show 0 ≤ (tFacts (tFill P0 0 (p2 a) S) n) ∧ (tFacts (tFill P0 0 (p2 a) S) n) < 2147483648 by omega) (show 0 ≤ f ∧ f < 31 by omega)) v_X4_137 rfl (fun k q h => by simp at h) (by decide) (by decide) (Nat.le_of_ble_eq_true rfl) dX4_origins_67 rfl ?_
            refine r_ifb_eq C 82 dX4_origins_70 (by decide) (fun hc8 => ?_) (fun hc8 => ?_)
            · skip
              refine r_iinc (v := a + 1) C [(5, .int (iI (a + 1))), (0, .ref (o)), (1, .int (iI (n))), (2, .int (iI (f))), (3, .ref (p0)), (4, .int (iI (r)))] dX4_origins_82 hl 5 rfl (by decide) (by omega) rfl (fun ls hl => ?_)
              refine r_goto C 38 dX4_origins_85 (by decide) ?_
              exact ih38 _ _ (tFill P0 0 (p2 a) S) (by omega) (by omega) (by omega) (by assumption) (by rw [hq, it_s]; unfold fOrigF; rw [if_neg hc8]) _ _ ls hW (lv_sub hl [1, 2, 3, 4, 5, 0] rfl)
            · skip
              refine r_iload C dX4_origins_73 hl 4 rfl ?_
              refine r_iconst (z := 1) C dX4_origins_75 rfl ?_
              refine r_iload C dX4_origins_76 hl 5 rfl ?_
              refine r_ishl1 C (by omega) (by omega) dX4_origins_78 ?_
              have hb9 := p2_0 a
              have hb10 : p2 a < 256 := p2_8 (by omega)
              refine r_ior C (by omega) (by omega) dX4_origins_79 ?_
              have hb11 := bO_0 r (p2 a)
              have hb12 : bO r (p2 a) < 256 := bO_8 (by omega) (by omega)
              refine r_istore C [(4, .int (iI (bO r (p2 a)))), (0, .ref (o)), (1, .int (iI (n))), (2, .int (iI (f))), (3, .ref (p0)), (5, .int (iI (a)))] dX4_origins_80 hl (by decide) rfl (fun ls hl => ?_)
              refine r_iinc (v := a + 1) C [(5, .int (iI (a + 1))), (4, .int (iI (bO r (p2 a)))), (0, .ref (o)), (1, .int (iI (n))), (2, .int (iI (f))), (3, .ref (p0))] dX4_origins_82 hl 5 rfl (by decide) (by omega) rfl (fun ls hl => ?_)
              refine r_goto C 38 dX4_origins_85 (by decide) ?_
              exact ih38 _ _ (tFill P0 0 (p2 a) S) (by omega) (by omega) (by omega) (by assumption) (by rw [hq, it_s]; unfold fOrigF; rw [if_pos hc8]) _ _ ls hW (lv_sub hl [2, 3, 4, 5, 1, 0] rfl)
      exact hloop38 8 0 0 T (by omega) (by omega) (by omega) (by assumption) rfl _ _ ls hW (lv_sub hl [3, 4, 5, 2, 1, 0] rfl)
    · skip
      refine r_aload_n C dX4_origins_25 hl 1 rfl ?_
      refine r_bipush (z := -2) C dX4_origins_26 rfl ?_
      refine r_callW (rest := []) (r := some (.int (iI ((-2))))) (wr := tW g (ma 1) ta T ++ (uW g (ma 2) sa U ++ (xW g (ma 3) xa X ++ pW g p0 a0 P0))) (ws2 := fW g o ma (fRef (-2) M) ++ (tW g (ma 1) ta T ++ (uW g (ma 2) sa U ++ (xW g (ma 3) xa X ++ pW g p0 a0 P0)))) (st1 := [.int (iI ((-2)))]) C hl.1 hW hA (c_X4_refused l g o ma M (-2) (by assumption) (show rg (-2) by omega)) v_X4_90 rfl [0, 1] [2, 3, 4, 5, 6, 7, 8, 9, 10, 11, 12, 13, 14, 15, 16, 17, 18, 19, 20, 21, 22, 23, 24] [23, 24, 0, 1, 2, 3, 4, 5, 6, 7, 8, 9, 10, 11, 12, 13, 14, 15, 16, 17, 18, 19, 20, 21, 22] rfl rfl (by decide) (by decide) rfl rfl 0 rfl rfl rfl (by decide) (by decide) (Nat.le_of_ble_eq_true rfl) dX4_origins_28 rfl rfl (fun H locs hW => ?_)
      have hE : fOrigins P0 n f M T = ((-2), fRef (-2) M, T) := by unfold fOrigins; (repeat' split) <;> first | rfl | (exfalso; omega)
      exact MW_iret C hAe hrt hlk hW dX4_origins_31 (iw (by rw [hE])) (by rw [hE])
set_option maxHeartbeats 4000000 in
set_option maxRecDepth 100000 in
theorem c_X4_summary (l : Launch) (g : GG) (o : Nat) (ma : Nat → Nat) (M : Mf) (ta : Nat → Nat) (T : Tb) (sa : Nat → Nat) (U : Sp) (xa : Nat → Nat) (X : Tx) (p0 : Nat) (a0 : Nat → Nat) (P0 : Pg) (e b : Int) (hM : fOk M) (hT : tOk T) (hU : uOk U) (hX : xOk X) (hP0 : pOk P0) (hr0 : f_rows M (f_now M).toNat = some p0) (h_e : rg e) (h_b : rg b) : MW l g yX4_summary cX4_summary 8 (some .int) 6 172 [.ref (o), .int (iI (e)), .int (iI (b))] (fW g o ma M ++ (tW g (ma 1) ta T ++ (uW g (ma 2) sa U ++ (xW g (ma 3) xa X ++ pW g p0 a0 P0)))) (fW g o ma ((fSummary P0 e b M T).2.1) ++ (tW g (ma 1) ta ((fSummary P0 e b M T).2.2) ++ (uW g (ma 2) sa U ++ (xW g (ma 3) xa X ++ pW g p0 a0 P0)))) (some (.int (iI ((fSummary P0 e b M T).1)))) := by
  refine MW_start (by decide) (Nat.le_of_ble_eq_true rfl) ?_
  intro zp ze zs zm zb zt zc A hAe C hrt hlk hW ls hl
  have hA : ∀ q, zs.heap.size ≤ q → A q := fun q h => by rw [hAe]; exact Or.inr h
  have hl : lv_has ls 8 [(0, .ref (o)), (1, .int (iI (e))), (2, .int (iI (b)))] := hl
  obtain ⟨hM_now, hM_states, hM_timesBad, hM_timesNo, hM_timesFull⟩ := id hM
  obtain ⟨hT_ready, hT_seedProc, hT_seedFacts, hT_size, hT_seen, hT_keys, hT_placeOf, hT_before, hT_through, hT_way, hT_inner, hT_sites, hT_siteCount⟩ := id hT
  obtain ⟨hU_ready, hU_reached⟩ := id hU
  obtain ⟨hX_length, hX_orders, hX_bytes, hX_parts, hX_place⟩ := id hX
  obtain ⟨hP0_procs, hP0_nodes, hP0_edges, hP0_start, hP0_entryOf, hP0_exitOf, hP0_procOf, hP0_kindOf, hP0_from, hP0_to, hP0_callee⟩ := id hP0
  refine r_aload_n C dX4_summary_0 hl 0 rfl ?_
  refine r_get (v := .ref (ma 0)) C f_X4_11 hW.1 0 rfl rfl dX4_summary_1 ?_
  refine r_aload_n C dX4_summary_4 hl 0 rfl ?_
  refine r_get (v := .int (iI (f_now M))) C f_X4_15 hW.1 0 rfl rfl dX4_summary_5 ?_
  refine r_aald (f := f_rows M) (b := p0) C hW.1 1 rfl (Nat.le_of_ble_eq_true rfl) (by omega) hr0 dX4_summary_8 ?_
  refine r_astore_n C [(3, .ref (p0)), (0, .ref (o)), (1, .int (iI (e))), (2, .int (iI (b)))] dX4_summary_9 hl (by decide) rfl (fun ls hl => ?_)
  refine r_aload_n C dX4_summary_10 hl 0 rfl ?_
  refine r_iload_n C dX4_summary_11 hl 2 rfl ?_
  refine r_callR (rest := []) (r := .int (iI (bI (0 ≤ e ∧ e < (p_edges P0))))) C hl.1 (c_X0_isEdge l g p0 a0 P0 e (by assumption) (show rg e by omega)) v_X4_100 rfl (hW.1.sub [16, 17, 18, 19, 20, 21, 22, 23, 24] rfl) 0 rfl rfl rfl (by decide) (by decide) (Nat.le_of_ble_eq_true rfl) dX4_summary_12 rfl ?_
  refine r_ifb_eq C 25 dX4_summary_15 (by decide) (fun hc1 => ?_) (fun hc1 => ?_)
  · skip
    refine r_aload_n C dX4_summary_25 hl 1 rfl ?_
    refine r_bipush (z := -2) C dX4_summary_26 rfl ?_
    refine r_callW (rest := []) (r := some (.int (iI ((-2))))) (wr := tW g (ma 1) ta T ++ (uW g (ma 2) sa U ++ (xW g (ma 3) xa X ++ pW g p0 a0 P0))) (ws2 := fW g o ma (fRef (-2) M) ++ (tW g (ma 1) ta T ++ (uW g (ma 2) sa U ++ (xW g (ma 3) xa X ++ pW g p0 a0 P0)))) (st1 := [.int (iI ((-2)))]) C hl.1 hW hA (c_X4_refused l g o ma M (-2) (by assumption) (show rg (-2) by omega)) v_X4_90 rfl [0, 1] [2, 3, 4, 5, 6, 7, 8, 9, 10, 11, 12, 13, 14, 15, 16, 17, 18, 19, 20, 21, 22, 23, 24] [23, 24, 0, 1, 2, 3, 4, 5, 6, 7, 8, 9, 10, 11, 12, 13, 14, 15, 16, 17, 18, 19, 20, 21, 22] rfl rfl (by decide) (by decide) rfl rfl 0 rfl rfl rfl (by decide) (by decide) (Nat.le_of_ble_eq_true rfl) dX4_summary_28 rfl rfl (fun H locs hW => ?_)
    have hE : fSummary P0 e b M T = ((-2), fRef (-2) M, T) := by unfold fSummary; (repeat' split) <;> first | rfl | (exfalso; omega)
    exact MW_iret C hAe hrt hlk hW dX4_summary_31 (iw (by rw [hE])) (by rw [hE])
  · skip
    refine r_iload_n C dX4_summary_18 hl 3 rfl ?_
    refine r_callRS (rest := []) (r := .int (iI (bI (0 ≤ b ∧ b < 8)))) C hl.1 (c_X4_isFact l g  b (show rg b by omega)) v_X4_111 rfl (fun k q h => by simp at h) (by decide) (by decide) (Nat.le_of_ble_eq_true rfl) dX4_summary_19 rfl ?_
    refine r_ifb_ne C 32 dX4_summary_22 (by decide) (fun hc2 => ?_) (fun hc2 => ?_)
    · skip
      refine r_aload_n C dX4_summary_32 hl 0 rfl ?_
      refine r_get (v := .ref (a0 6)) C f_X4_140 hW.1 16 rfl rfl dX4_summary_33 ?_
      refine r_iload_n C dX4_summary_36 hl 2 rfl ?_
      refine r_iald (f := p_callee P0) C hW.1 23 rfl (Nat.le_of_ble_eq_true rfl) (by omega) dX4_summary_37 ?_
      have hr3 := hP0_callee e (by omega) (by omega)
      refine r_istore C [(4, .int (iI (p_callee P0 e))), (3, .ref (p0)), (0, .ref (o)), (1, .int (iI (e))), (2, .int (iI (b)))] dX4_summary_38 hl (by decide) rfl (fun ls hl => ?_)
      refine r_iload C dX4_summary_40 hl 0 rfl ?_
      refine r_iconst (z := -1) C dX4_summary_42 rfl ?_
      refine r_icmp_ne C 53 dX4_summary_43 (by decide) (by omega) (by omega) (fun hc4 => ?_) (fun hc4 => ?_)
      · skip
        refine r_aload_n C dX4_summary_53 hl 1 rfl ?_
        refine r_iload_n C dX4_summary_54 hl 3 rfl ?_
        refine r_iconst (z := 1) C dX4_summary_55 rfl ?_
        refine r_iload_n C dX4_summary_56 hl 4 rfl ?_
        refine r_callR (rest := []) (r := .int (iI (pReach P0 e 1 b))) C hl.1 (c_X0_reach l g p0 a0 P0 e 1 b (show 0 ≤ e ∧ e < 32 by omega) (show 0 ≤ 1 ∧ 1 < 3 by omega) (show 0 ≤ b ∧ b < 8 by omega)) v_X4_114 rfl (hW.1.sub [16, 17, 18, 19, 20, 21, 22, 23, 24] rfl) 0 rfl rfl rfl (by decide) (by decide) (Nat.le_of_ble_eq_true rfl) dX4_summary_57 rfl ?_
        have hq5 := pReach_r P0 e 1 b
        refine r_istore C [(5, .int (iI (pReach P0 e 1 b))), (4, .int (iI (p_callee P0 e))), (3, .ref (p0)), (0, .ref (o)), (1, .int (iI (e))), (2, .int (iI (b)))] dX4_summary_60 hl (by decide) rfl (fun ls hl => ?_)
        refine r_aload_n C dX4_summary_62 hl 3 rfl ?_
        refine r_get (v := .ref (ma 1)) C f_X4_25 hW.1 0 rfl rfl dX4_summary_63 ?_
        refine r_aload_n C dX4_summary_66 hl 2 rfl ?_
        refine r_iload C dX4_summary_67 hl 1 rfl ?_
        refine r_iload C dX4_summary_69 hl 0 rfl ?_
        refine r_callW (rest := []) (r := none) (wr := fW g o ma M ++ (uW g (ma 2) sa U ++ xW g (ma 3) xa X)) (ws2 := fW g o ma M ++ (tW g (ma 1) ta (fSumT P0 e b T) ++ (uW g (ma 2) sa U ++ (xW g (ma 3) xa X ++ pW g p0 a0 P0)))) (st1 := []) C hl.1 hW hA (c_X2_fill l g (ma 1) ta T p0 a0 P0 (p_callee P0 e) (pReach P0 e 1 b) (by assumption) (by assumption) (show 0 ≤ (p_callee P0 e) ∧ (p_callee P0 e) < 5 by omega) (show 0 ≤ (pReach P0 e 1 b) ∧ (pReach P0 e 1 b) < 256 by omega)) v_X4_120 rfl [2, 3, 4, 5, 6, 7, 8, 9, 10, 16, 17, 18, 19, 20, 21, 22, 23, 24] [0, 1, 11, 12, 13, 14, 15] [0, 1, 7, 8, 9, 10, 11, 12, 13, 14, 15, 2, 3, 4, 5, 6, 16, 17, 18, 19, 20, 21, 22, 23, 24] rfl rfl (by decide) (by decide) rfl rfl 0 rfl rfl rfl (by decide) (by decide) (Nat.le_of_ble_eq_true rfl) dX4_summary_71 rfl rfl (fun H locs hW => ?_)
        have hSF : tOk (fSumT P0 e b T) := tFill_ok (by assumption) (by assumption) (by omega) (by omega)
        obtain ⟨hSF_ready, hSF_seedProc, hSF_seedFacts, hSF_size, hSF_seen, hSF_keys, hSF_placeOf, hSF_before, hSF_through, hSF_way, hSF_inner, hSF_sites, hSF_siteCount⟩ := id hSF
        refine r_iconst (z := 0) C dX4_summary_74 rfl ?_
        refine r_istore C [(6, .int (iI (0))), (5, .int (iI (pReach P0 e 1 b))), (4, .int (iI (p_callee P0 e))), (3, .ref (p0)), (0, .ref (o)), (1, .int (iI (e))), (2, .int (iI (b)))] dX4_summary_75 hl (by decide) rfl (fun ls hl => ?_)
        refine r_iconst (z := 0) C dX4_summary_77 rfl ?_
        refine r_istore C [(7, .int (iI (0))), (6, .int (iI (0))), (5, .int (iI (pReach P0 e 1 b))), (4, .int (iI (p_callee P0 e))), (3, .ref (p0)), (0, .ref (o)), (1, .int (iI (e))), (2, .int (iI (b)))] dX4_summary_78 hl (by decide) rfl (fun ls hl => ?_)
        have hloop80 : ∀ (k80 : Nat) (c r : Int) (hkk : c + k80 = 8) (hc : 0 ≤ c) (hr9 : 0 ≤ r ∧ r < 256) (hq : fSumF P0 e b T = it (fun c r => if tb (pReach P0 e 1 b) c = true then bO r (pCarry P0 e 2 (t_seen (fSumT P0 e b T) (p_exitOf P0 (p_callee P0 e) * 8 + c))) else r) k80 c r) (H : Heap) (locs : List Loc) (ls : Array Slot), HW g A zs.heap (fW g o ma M ++ (tW g (ma 1) ta (fSumT P0 e b T) ++ (uW g (ma 2) sa U ++ (xW g (ma 3) xa X ++ pW g p0 a0 P0)))) H locs → lv_has ls 8 [(0, .ref (o)), (1, .int (iI (e))), (2, .int (iI (b))), (3, .ref (p0)), (4, .int (iI (p_callee P0 e))), (5, .int (iI (pReach P0 e 1 b))), (6, .int (iI (r))), (7, .int (iI (c)))] → W zp l ze (rmm 6 172) zs zm (List.toArray [.ref (o), .int (iI (e)), .int (iI (b))]) zb zt zc H locs 0 0 (MQ zb (QW g (fW g o ma M ++ (tW g (ma 1) ta T ++ (uW g (ma 2) sa U ++ (xW g (ma 3) xa X ++ pW g p0 a0 P0)))) (fW g o ma ((fSummary P0 e b M T).2.1) ++ (tW g (ma 1) ta ((fSummary P0 e b M T).2.2) ++ (uW g (ma 2) sa U ++ (xW g (ma 3) xa X ++ pW g p0 a0 P0)))) zs.heap.size (some (.int (iI ((fSummary P0 e b M T).1))))) (List.toArray [.ref (o), .int (iI (e)), .int (iI (b))]) zs 0 0 A) (F0 zm 80 ls []) := by
          intro k80
          induction k80 with
          | zero =>
            intro c r hkk hc hr9 hq H locs ls hW hl
            refine r_iload C dX4_summary_80 hl 7 rfl ?_
            refine r_bipush (z := 8) C dX4_summary_82 rfl ?_
            refine r_icmp_ge C 134 dX4_summary_84 (by decide) (by omega) (by omega) (fun hc6 => ?_) (fun hc6 => ?_)
            · skip
              refine r_iload C dX4_summary_134 hl 6 rfl ?_
              have hE : fSummary P0 e b M T = (r, M, fSumT P0 e b T) := by unfold fSummary; rw [if_pos ⟨by assumption, by assumption⟩]; exact (if_neg (by assumption)).trans (by rw [hq]; rfl)
              exact MW_iret C hAe hrt hlk hW dX4_summary_136 (iw (by rw [hE])) (by rw [hE])
            · exact absurd hc6 (by omega)
          | succ k80 ih80 =>
            intro c r hkk hc hr9 hq H locs ls hW hl
            refine r_iload C dX4_summary_80 hl 7 rfl ?_
            refine r_bipush (z := 8) C dX4_summary_82 rfl ?_
            refine r_icmp_ge C 134 dX4_summary_84 (by decide) (by omega) (by omega) (fun hc7 => ?_) (fun hc7 => ?_)
            · exact absurd hc7 (by omega)
            · skip
              refine r_iload C dX4_summary_87 hl 5 rfl ?_
              refine r_iload C dX4_summary_89 hl 7 rfl ?_
              refine r_callRS (rest := []) (r := .int (iI (bI (tb (pReach P0 e 1 b) c = true)))) C hl.1 (c_X4_has l g  (pReach P0 e 1 b) c (show 0 ≤ (pReach P0 e 1 b) ∧ (pReach P0 e 1 b) < 2147483648 by omega) (show 0 ≤ c ∧ c < 31 by omega)) v_X4_137 rfl (fun k q h => by simp at h) (by decide) (by decide) (Nat.le_of_ble_eq_true rfl) dX4_summary_91 rfl ?_
              refine r_ifb_eq C 128 dX4_summary_94 (by decide) (fun hc8 => ?_) (fun hc8 => ?_)
              · skip
                refine r_iinc (v := c + 1) C [(7, .int (iI (c + 1))), (0, .ref (o)), (1, .int (iI (e))), (2, .int (iI (b))), (3, .ref (p0)), (4, .int (iI (p_callee P0 e))), (5, .int (iI (pReach P0 e 1 b))), (6, .int (iI (r)))] dX4_summary_128 hl 7 rfl (by decide) (by omega) rfl (fun ls hl => ?_)
                refine r_goto C 80 dX4_summary_131 (by decide) ?_
                exact ih80 _ _ (by omega) (by omega) (by omega) (by rw [hq, it_s, if_neg hc8]) _ _ ls hW (lv_sub hl [1, 2, 3, 4, 5, 6, 7, 0] rfl)
              · skip
                refine r_iload C dX4_summary_97 hl 6 rfl ?_
                refine r_aload_n C dX4_summary_99 hl 3 rfl ?_
                refine r_iload_n C dX4_summary_100 hl 1 rfl ?_
                refine r_iconst (z := 2) C dX4_summary_101 rfl ?_
                refine r_aload_n C dX4_summary_102 hl 0 rfl ?_
                refine r_get (v := .ref (ma 1)) C f_X4_25 hW.1 0 rfl rfl dX4_summary_103 ?_
                refine r_get (v := .ref (ta 0)) C f_X4_143 hW.1 2 rfl rfl dX4_summary_106 ?_
                refine r_aload_n C dX4_summary_109 hl 3 rfl ?_
                refine r_get (v := .ref (a0 1)) C f_X4_146 hW.1 16 rfl rfl dX4_summary_110 ?_
                refine r_iload C dX4_summary_113 hl 4 rfl ?_
                refine r_iald (f := p_exitOf P0) C hW.1 18 rfl (Nat.le_of_ble_eq_true rfl) (by omega) dX4_summary_115 ?_
                have hr9 := hP0_exitOf (p_callee P0 e) (by omega) (by omega)
                refine r_iload C dX4_summary_116 hl 7 rfl ?_
                refine r_callRS (rest := [.ref (ta 0), .int (iI (2)), .int (iI (e)), .ref (p0), .int (iI (r))]) (r := .int (iI ((p_exitOf P0 (p_callee P0 e)) * 8 + c))) C hl.1 (c_X4_cell l g  (p_exitOf P0 (p_callee P0 e)) c) v_X4_149 rfl (fun k q h => by simp at h) (by decide) (by decide) (Nat.le_of_ble_eq_true rfl) dX4_summary_118 rfl ?_
                refine r_iald (f := t_seen (fSumT P0 e b T)) C hW.1 3 rfl (Nat.le_of_ble_eq_true rfl) (by omega) dX4_summary_121 ?_
                have hr10 := hSF_seen ((p_exitOf P0 (p_callee P0 e)) * 8 + c) (by omega) (by omega)
                refine r_callR (rest := [.int (iI (r))]) (r := .int (iI (pCarry P0 e 2 ((t_seen (fSumT P0 e b T)) ((p_exitOf P0 (p_callee P0 e)) * 8 + c))))) C hl.1 (c_X0_carry l g p0 a0 P0 e 2 ((t_seen (fSumT P0 e b T)) ((p_exitOf P0 (p_callee P0 e)) * 8 + c)) (show 0 ≤ e ∧ e < 32 by omega) (show 0 ≤ 2 ∧ 2 < 3 by omega) (show 0 ≤ ((t_seen (fSumT P0 e b T)) ((p_exitOf P0 (p_callee P0 e)) * 8 + c)) ∧ ((t_seen (fSumT P0 e b T)) ((p_exitOf P0 (p_callee P0 e)) * 8 + c)) < 256 by omega)) v_X4_152 rfl (hW.1.sub [16, 17, 18, 19, 20, 21, 22, 23, 24] rfl) 0 rfl rfl rfl (by decide) (by decide) (Nat.le_of_ble_eq_true rfl) dX4_summary_122 rfl ?_
                have hcr := pCarry_r P0 e 2 (t_seen (fSumT P0 e b T) (p_exitOf P0 (p_callee P0 e) * 8 + c))
                refine r_ior C (by omega) (by omega) dX4_summary_125 ?_
                have hb11 := bO_0 r (pCarry P0 e 2 ((t_seen (fSumT P0 e b T)) ((p_exitOf P0 (p_callee P0 e)) * 8 + c)))
                have hb12 : bO r (pCarry P0 e 2 ((t_seen (fSumT P0 e b T)) ((p_exitOf P0 (p_callee P0 e)) * 8 + c))) < 256 := bO_8 (by omega) (by omega)
                refine r_istore C [(6, .int (iI (bO r (pCarry P0 e 2 ((t_seen (fSumT P0 e b T)) ((p_exitOf P0 (p_callee P0 e)) * 8 + c)))))), (0, .ref (o)), (1, .int (iI (e))), (2, .int (iI (b))), (3, .ref (p0)), (4, .int (iI (p_callee P0 e))), (5, .int (iI (pReach P0 e 1 b))), (7, .int (iI (c)))] dX4_summary_126 hl (by decide) rfl (fun ls hl => ?_)
                refine r_iinc (v := c + 1) C [(7, .int (iI (c + 1))), (6, .int (iI (bO r (pCarry P0 e 2 ((t_seen (fSumT P0 e b T)) ((p_exitOf P0 (p_callee P0 e)) * 8 + c)))))), (0, .ref (o)), (1, .int (iI (e))), (2, .int (iI (b))), (3, .ref (p0)), (4, .int (iI (p_callee P0 e))), (5, .int (iI (pReach P0 e 1 b)))] dX4_summary_128 hl 7 rfl (by decide) (by omega) rfl (fun ls hl => ?_)
                refine r_goto C 80 dX4_summary_131 (by decide) ?_
                exact ih80 _ _ (by omega) (by omega) (by omega) (by rw [hq, it_s, if_pos hc8]) _ _ ls hW (lv_sub hl [2, 3, 4, 5, 6, 7, 1, 0] rfl)
        exact hloop80 8 0 0 (by omega) (by omega) (by omega) rfl _ _ ls hW (lv_sub hl [5, 6, 7, 4, 3, 2, 1, 0] rfl)
      · skip
        refine r_aload_n C dX4_summary_46 hl 2 rfl ?_
        refine r_bipush (z := -3) C dX4_summary_47 rfl ?_
        refine r_callW (rest := []) (r := some (.int (iI ((-3))))) (wr := tW g (ma 1) ta T ++ (uW g (ma 2) sa U ++ (xW g (ma 3) xa X ++ pW g p0 a0 P0))) (ws2 := fW g o ma (fRef (-3) M) ++ (tW g (ma 1) ta T ++ (uW g (ma 2) sa U ++ (xW g (ma 3) xa X ++ pW g p0 a0 P0)))) (st1 := [.int (iI ((-3)))]) C hl.1 hW hA (c_X4_refused l g o ma M (-3) (by assumption) (show rg (-3) by omega)) v_X4_90 rfl [0, 1] [2, 3, 4, 5, 6, 7, 8, 9, 10, 11, 12, 13, 14, 15, 16, 17, 18, 19, 20, 21, 22, 23, 24] [23, 24, 0, 1, 2, 3, 4, 5, 6, 7, 8, 9, 10, 11, 12, 13, 14, 15, 16, 17, 18, 19, 20, 21, 22] rfl rfl (by decide) (by decide) rfl rfl 0 rfl rfl rfl (by decide) (by decide) (Nat.le_of_ble_eq_true rfl) dX4_summary_49 rfl rfl (fun H locs hW => ?_)
        have hE : fSummary P0 e b M T = ((-3), fRef (-3) M, T) := by unfold fSummary; rw [if_pos ⟨by assumption, by assumption⟩]; exact if_pos (by omega)
        exact MW_iret C hAe hrt hlk hW dX4_summary_52 (iw (by rw [hE])) (by rw [hE])
    · skip
      refine r_aload_n C dX4_summary_25 hl 1 rfl ?_
      refine r_bipush (z := -2) C dX4_summary_26 rfl ?_
      refine r_callW (rest := []) (r := some (.int (iI ((-2))))) (wr := tW g (ma 1) ta T ++ (uW g (ma 2) sa U ++ (xW g (ma 3) xa X ++ pW g p0 a0 P0))) (ws2 := fW g o ma (fRef (-2) M) ++ (tW g (ma 1) ta T ++ (uW g (ma 2) sa U ++ (xW g (ma 3) xa X ++ pW g p0 a0 P0)))) (st1 := [.int (iI ((-2)))]) C hl.1 hW hA (c_X4_refused l g o ma M (-2) (by assumption) (show rg (-2) by omega)) v_X4_90 rfl [0, 1] [2, 3, 4, 5, 6, 7, 8, 9, 10, 11, 12, 13, 14, 15, 16, 17, 18, 19, 20, 21, 22, 23, 24] [23, 24, 0, 1, 2, 3, 4, 5, 6, 7, 8, 9, 10, 11, 12, 13, 14, 15, 16, 17, 18, 19, 20, 21, 22] rfl rfl (by decide) (by decide) rfl rfl 0 rfl rfl rfl (by decide) (by decide) (Nat.le_of_ble_eq_true rfl) dX4_summary_28 rfl rfl (fun H locs hW => ?_)
      have hE : fSummary P0 e b M T = ((-2), fRef (-2) M, T) := by unfold fSummary; (repeat' split) <;> first | rfl | (exfalso; omega)
      exact MW_iret C hAe hrt hlk hW dX4_summary_31 (iw (by rw [hE])) (by rw [hE])
set_option maxHeartbeats 4000000 in
set_option maxRecDepth 100000 in
theorem c_X4_entry (l : Launch) (g : GG) (o : Nat) (ma : Nat → Nat) (M : Mf) (ta : Nat → Nat) (T : Tb) (sa : Nat → Nat) (U : Sp) (xa : Nat → Nat) (X : Tx) (p0 : Nat) (a0 : Nat → Nat) (P0 : Pg) (i w : Int) (hM : fOk M) (hT : tOk T) (hU : uOk U) (hX : xOk X) (hP0 : pOk P0) (hr0 : f_rows M (f_now M).toNat = some p0) (h_i : rg i) (h_w : rg w) : MW l g yX4_entry cX4_entry 4 (some .int) 6 172 [.ref (o), .int (iI (i)), .int (iI (w))] (fW g o ma M ++ (tW g (ma 1) ta T ++ (uW g (ma 2) sa U ++ (xW g (ma 3) xa X ++ pW g p0 a0 P0)))) (fW g o ma ((fEntryA P0 i w M T).2.1) ++ (tW g (ma 1) ta ((fEntryA P0 i w M T).2.2) ++ (uW g (ma 2) sa U ++ (xW g (ma 3) xa X ++ pW g p0 a0 P0)))) (some (.int (iI ((fEntryA P0 i w M T).1)))) := by
  refine MW_start (by decide) (Nat.le_of_ble_eq_true rfl) ?_
  intro zp ze zs zm zb zt zc A hAe C hrt hlk hW ls hl
  have hA : ∀ q, zs.heap.size ≤ q → A q := fun q h => by rw [hAe]; exact Or.inr h
  have hl : lv_has ls 4 [(0, .ref (o)), (1, .int (iI (i))), (2, .int (iI (w)))] := hl
  obtain ⟨hM_now, hM_states, hM_timesBad, hM_timesNo, hM_timesFull⟩ := id hM
  obtain ⟨hT_ready, hT_seedProc, hT_seedFacts, hT_size, hT_seen, hT_keys, hT_placeOf, hT_before, hT_through, hT_way, hT_inner, hT_sites, hT_siteCount⟩ := id hT
  obtain ⟨hU_ready, hU_reached⟩ := id hU
  obtain ⟨hX_length, hX_orders, hX_bytes, hX_parts, hX_place⟩ := id hX
  obtain ⟨hP0_procs, hP0_nodes, hP0_edges, hP0_start, hP0_entryOf, hP0_exitOf, hP0_procOf, hP0_kindOf, hP0_from, hP0_to, hP0_callee⟩ := id hP0
  refine r_iload_n C dX4_entry_0 hl 1 rfl ?_
  refine r_if_lt C 13 dX4_entry_1 (by decide) (by omega) (fun hc1 => ?_) (fun hc1 => ?_)
  · skip
    refine r_aload_n C dX4_entry_13 hl 0 rfl ?_
    refine r_bipush (z := -2) C dX4_entry_14 rfl ?_
    refine r_callW (rest := []) (r := some (.int (iI ((-2))))) (wr := tW g (ma 1) ta T ++ (uW g (ma 2) sa U ++ (xW g (ma 3) xa X ++ pW g p0 a0 P0))) (ws2 := fW g o ma (fRef (-2) M) ++ (tW g (ma 1) ta T ++ (uW g (ma 2) sa U ++ (xW g (ma 3) xa X ++ pW g p0 a0 P0)))) (st1 := [.int (iI ((-2)))]) C hl.1 hW hA (c_X4_refused l g o ma M (-2) (by assumption) (show rg (-2) by omega)) v_X4_90 rfl [0, 1] [2, 3, 4, 5, 6, 7, 8, 9, 10, 11, 12, 13, 14, 15, 16, 17, 18, 19, 20, 21, 22, 23, 24] [23, 24, 0, 1, 2, 3, 4, 5, 6, 7, 8, 9, 10, 11, 12, 13, 14, 15, 16, 17, 18, 19, 20, 21, 22] rfl rfl (by decide) (by decide) rfl rfl 0 rfl rfl rfl (by decide) (by decide) (Nat.le_of_ble_eq_true rfl) dX4_entry_16 rfl rfl (fun H locs hW => ?_)
    have hE : fEntryA P0 i w M T = ((-2), fRef (-2) M, T) := by unfold fEntryA; (repeat' split) <;> first | rfl | (exfalso; omega)
    exact MW_iret C hAe hrt hlk hW dX4_entry_19 (iw (by rw [hE])) (by rw [hE])
  · skip
    refine r_iload_n C dX4_entry_4 hl 2 rfl ?_
    refine r_if_lt C 13 dX4_entry_5 (by decide) (by omega) (fun hc2 => ?_) (fun hc2 => ?_)
    · skip
      refine r_aload_n C dX4_entry_13 hl 0 rfl ?_
      refine r_bipush (z := -2) C dX4_entry_14 rfl ?_
      refine r_callW (rest := []) (r := some (.int (iI ((-2))))) (wr := tW g (ma 1) ta T ++ (uW g (ma 2) sa U ++ (xW g (ma 3) xa X ++ pW g p0 a0 P0))) (ws2 := fW g o ma (fRef (-2) M) ++ (tW g (ma 1) ta T ++ (uW g (ma 2) sa U ++ (xW g (ma 3) xa X ++ pW g p0 a0 P0)))) (st1 := [.int (iI ((-2)))]) C hl.1 hW hA (c_X4_refused l g o ma M (-2) (by assumption) (show rg (-2) by omega)) v_X4_90 rfl [0, 1] [2, 3, 4, 5, 6, 7, 8, 9, 10, 11, 12, 13, 14, 15, 16, 17, 18, 19, 20, 21, 22, 23, 24] [23, 24, 0, 1, 2, 3, 4, 5, 6, 7, 8, 9, 10, 11, 12, 13, 14, 15, 16, 17, 18, 19, 20, 21, 22] rfl rfl (by decide) (by decide) rfl rfl 0 rfl rfl rfl (by decide) (by decide) (Nat.le_of_ble_eq_true rfl) dX4_entry_16 rfl rfl (fun H locs hW => ?_)
      have hE : fEntryA P0 i w M T = ((-2), fRef (-2) M, T) := by unfold fEntryA; (repeat' split) <;> first | rfl | (exfalso; omega)
      exact MW_iret C hAe hrt hlk hW dX4_entry_19 (iw (by rw [hE])) (by rw [hE])
    · skip
      refine r_iload_n C dX4_entry_8 hl 2 rfl ?_
      refine r_iconst (z := 3) C dX4_entry_9 rfl ?_
      refine r_icmp_le C 20 dX4_entry_10 (by decide) (by omega) (by omega) (fun hc3 => ?_) (fun hc3 => ?_)
      · skip
        refine r_aload_n C dX4_entry_20 hl 0 rfl ?_
        refine r_get (v := .ref (ma 0)) C f_X4_11 hW.1 0 rfl rfl dX4_entry_21 ?_
        refine r_aload_n C dX4_entry_24 hl 0 rfl ?_
        refine r_get (v := .int (iI (f_now M))) C f_X4_15 hW.1 0 rfl rfl dX4_entry_25 ?_
        refine r_aald (f := f_rows M) (b := p0) C hW.1 1 rfl (Nat.le_of_ble_eq_true rfl) (by omega) hr0 dX4_entry_28 ?_
        refine r_astore_n C [(3, .ref (p0)), (0, .ref (o)), (1, .int (iI (i))), (2, .int (iI (w)))] dX4_entry_29 hl (by decide) rfl (fun ls hl => ?_)
        refine r_aload_n C dX4_entry_30 hl 1 rfl ?_
        refine r_get (v := .ref (ma 1)) C f_X4_25 hW.1 0 rfl rfl dX4_entry_31 ?_
        refine r_aload_n C dX4_entry_34 hl 0 rfl ?_
        refine r_iconst (z := 0) C dX4_entry_35 rfl ?_
        refine r_aload_n C dX4_entry_36 hl 0 rfl ?_
        refine r_get (v := .int (iI (p_start P0))) C f_X4_117 hW.1 16 rfl rfl dX4_entry_37 ?_
        refine r_callW (rest := []) (r := none) (wr := fW g o ma M ++ (uW g (ma 2) sa U ++ xW g (ma 3) xa X)) (ws2 := fW g o ma M ++ (tW g (ma 1) ta (tFill P0 0 (p_start P0) T) ++ (uW g (ma 2) sa U ++ (xW g (ma 3) xa X ++ pW g p0 a0 P0)))) (st1 := []) C hl.1 hW hA (c_X2_fill l g (ma 1) ta T p0 a0 P0 0 (p_start P0) (by assumption) (by assumption) (show 0 ≤ 0 ∧ 0 < 5 by omega) (show 0 ≤ (p_start P0) ∧ (p_start P0) < 256 by omega)) v_X4_120 rfl [2, 3, 4, 5, 6, 7, 8, 9, 10, 16, 17, 18, 19, 20, 21, 22, 23, 24] [0, 1, 11, 12, 13, 14, 15] [0, 1, 7, 8, 9, 10, 11, 12, 13, 14, 15, 2, 3, 4, 5, 6, 16, 17, 18, 19, 20, 21, 22, 23, 24] rfl rfl (by decide) (by decide) rfl rfl 0 rfl rfl rfl (by decide) (by decide) (Nat.le_of_ble_eq_true rfl) dX4_entry_40 rfl rfl (fun H locs hW => ?_)
        have hok4 : tOk (tFill P0 0 (p_start P0) T) := tFill_ok (by assumption) (by assumption) (by omega) (by omega)
        have hTF : tOk (tFill P0 0 (p_start P0) T) := tFill_ok (by assumption) (by assumption) (by omega) (by omega)
        obtain ⟨hTF_ready, hTF_seedProc, hTF_seedFacts, hTF_size, hTF_seen, hTF_keys, hTF_placeOf, hTF_before, hTF_through, hTF_way, hTF_inner, hTF_sites, hTF_siteCount⟩ := id hTF
        refine r_iload_n C dX4_entry_43 hl 2 rfl ?_
        refine r_aload_n C dX4_entry_44 hl 1 rfl ?_
        refine r_get (v := .ref (ma 1)) C f_X4_25 hW.1 0 rfl rfl dX4_entry_45 ?_
        refine r_get (v := .int (iI (t_size (tFill P0 0 (p_start P0) T)))) C f_X4_155 hW.1 2 rfl rfl dX4_entry_48 ?_
        refine r_icmp_ge C 64 dX4_entry_51 (by decide) (by omega) (by omega) (fun hc5 => ?_) (fun hc5 => ?_)
        · skip
          refine r_iconst (z := -1) C dX4_entry_64 rfl ?_
          have hE : fEntryA P0 i w M T = (-1, M, tFill P0 0 (p_start P0) T) := by unfold fEntryA; (repeat' split) <;> first | rfl | (exfalso; omega)
          exact MW_iret C hAe hrt hlk hW dX4_entry_65 (iw (by rw [hE])) (by rw [hE])
        · skip
          refine r_aload_n C dX4_entry_54 hl 1 rfl ?_
          refine r_aload_n C dX4_entry_55 hl 0 rfl ?_
          refine r_iload_n C dX4_entry_56 hl 2 rfl ?_
          refine r_iload_n C dX4_entry_57 hl 3 rfl ?_
          refine r_callR (rest := []) (r := .int (iI (fEntry P0 (tFill P0 0 (p_start P0) T) i w))) C hl.1 (c_X4_partOfEntry l g o ma M  ta (tFill P0 0 (p_start P0) T) p0 a0 P0 i w (by assumption) (by assumption) (show 0 ≤ i ∧ i < 1536 by omega) (show rg w by omega)) v_X4_158 rfl (hW.1.sub [0, 1, 2, 3, 4, 5, 6, 7, 8, 9, 10, 16, 17, 18, 19, 20, 21, 22, 23, 24] rfl) 0 rfl rfl rfl (by decide) (by decide) (Nat.le_of_ble_eq_true rfl) dX4_entry_58 rfl ?_
          refine r_goto C 65 dX4_entry_61 (by decide) ?_
          have hE : fEntryA P0 i w M T = (fEntry P0 (tFill P0 0 (p_start P0) T) i w, M, tFill P0 0 (p_start P0) T) := by unfold fEntryA; (repeat' split) <;> first | rfl | (exfalso; omega)
          exact MW_iret C hAe hrt hlk hW dX4_entry_65 (iw (by rw [hE])) (by rw [hE])
      · skip
        refine r_aload_n C dX4_entry_13 hl 0 rfl ?_
        refine r_bipush (z := -2) C dX4_entry_14 rfl ?_
        refine r_callW (rest := []) (r := some (.int (iI ((-2))))) (wr := tW g (ma 1) ta T ++ (uW g (ma 2) sa U ++ (xW g (ma 3) xa X ++ pW g p0 a0 P0))) (ws2 := fW g o ma (fRef (-2) M) ++ (tW g (ma 1) ta T ++ (uW g (ma 2) sa U ++ (xW g (ma 3) xa X ++ pW g p0 a0 P0)))) (st1 := [.int (iI ((-2)))]) C hl.1 hW hA (c_X4_refused l g o ma M (-2) (by assumption) (show rg (-2) by omega)) v_X4_90 rfl [0, 1] [2, 3, 4, 5, 6, 7, 8, 9, 10, 11, 12, 13, 14, 15, 16, 17, 18, 19, 20, 21, 22, 23, 24] [23, 24, 0, 1, 2, 3, 4, 5, 6, 7, 8, 9, 10, 11, 12, 13, 14, 15, 16, 17, 18, 19, 20, 21, 22] rfl rfl (by decide) (by decide) rfl rfl 0 rfl rfl rfl (by decide) (by decide) (Nat.le_of_ble_eq_true rfl) dX4_entry_16 rfl rfl (fun H locs hW => ?_)
        have hE : fEntryA P0 i w M T = ((-2), fRef (-2) M, T) := by unfold fEntryA; (repeat' split) <;> first | rfl | (exfalso; omega)
        exact MW_iret C hAe hrt hlk hW dX4_entry_19 (iw (by rw [hE])) (by rw [hE])
set_option maxHeartbeats 4000000 in
set_option maxRecDepth 100000 in
theorem c_X4_witness (l : Launch) (g : GG) (o : Nat) (ma : Nat → Nat) (M : Mf) (ta : Nat → Nat) (T : Tb) (sa : Nat → Nat) (U : Sp) (xa : Nat → Nat) (X : Tx) (p0 : Nat) (a0 : Nat → Nat) (P0 : Pg) (n f i : Int) (hM : fOk M) (hT : tOk T) (hU : uOk U) (hX : xOk X) (hP0 : pOk P0) (hr0 : f_rows M (f_now M).toNat = some p0) (h_n : rg n) (h_f : rg f) (h_i : rg i) : MW l g yX4_witness cX4_witness 6 (some .int) 6 172 [.ref (o), .int (iI (n)), .int (iI (f)), .int (iI (i))] (fW g o ma M ++ (tW g (ma 1) ta T ++ (uW g (ma 2) sa U ++ (xW g (ma 3) xa X ++ pW g p0 a0 P0)))) (fW g o ma ((fWitness P0 n f i M T).2.1) ++ (tW g (ma 1) ta ((fWitness P0 n f i M T).2.2) ++ (uW g (ma 2) sa U ++ (xW g (ma 3) xa X ++ pW g p0 a0 P0)))) (some (.int (iI ((fWitness P0 n f i M T).1)))) := by
  refine MW_start (by decide) (Nat.le_of_ble_eq_true rfl) ?_
  intro zp ze zs zm zb zt zc A hAe C hrt hlk hW ls hl
  have hA : ∀ q, zs.heap.size ≤ q → A q := fun q h => by rw [hAe]; exact Or.inr h
  have hl : lv_has ls 6 [(0, .ref (o)), (1, .int (iI (n))), (2, .int (iI (f))), (3, .int (iI (i)))] := hl
  obtain ⟨hM_now, hM_states, hM_timesBad, hM_timesNo, hM_timesFull⟩ := id hM
  obtain ⟨hT_ready, hT_seedProc, hT_seedFacts, hT_size, hT_seen, hT_keys, hT_placeOf, hT_before, hT_through, hT_way, hT_inner, hT_sites, hT_siteCount⟩ := id hT
  obtain ⟨hU_ready, hU_reached⟩ := id hU
  obtain ⟨hX_length, hX_orders, hX_bytes, hX_parts, hX_place⟩ := id hX
  obtain ⟨hP0_procs, hP0_nodes, hP0_edges, hP0_start, hP0_entryOf, hP0_exitOf, hP0_procOf, hP0_kindOf, hP0_from, hP0_to, hP0_callee⟩ := id hP0
  refine r_aload_n C dX4_witness_0 hl 0 rfl ?_
  refine r_get (v := .ref (ma 0)) C f_X4_11 hW.1 0 rfl rfl dX4_witness_1 ?_
  refine r_aload_n C dX4_witness_4 hl 0 rfl ?_
  refine r_get (v := .int (iI (f_now M))) C f_X4_15 hW.1 0 rfl rfl dX4_witness_5 ?_
  refine r_aald (f := f_rows M) (b := p0) C hW.1 1 rfl (Nat.le_of_ble_eq_true rfl) (by omega) hr0 dX4_witness_8 ?_
  refine r_astore C [(4, .ref (p0)), (0, .ref (o)), (1, .int (iI (n))), (2, .int (iI (f))), (3, .int (iI (i)))] dX4_witness_9 hl (by decide) rfl (fun ls hl => ?_)
  refine r_aload C dX4_witness_11 hl 0 rfl ?_
  refine r_iload_n C dX4_witness_13 hl 2 rfl ?_
  refine r_callR (rest := []) (r := .int (iI (bI (0 ≤ n ∧ n < (p_nodes P0))))) C hl.1 (c_X0_isNode l g p0 a0 P0 n (by assumption) (show rg n by omega)) v_X4_86 rfl (hW.1.sub [16, 17, 18, 19, 20, 21, 22, 23, 24] rfl) 0 rfl rfl rfl (by decide) (by decide) (Nat.le_of_ble_eq_true rfl) dX4_witness_14 rfl ?_
  refine r_ifb_eq C 32 dX4_witness_17 (by decide) (fun hc1 => ?_) (fun hc1 => ?_)
  · skip
    refine r_aload_n C dX4_witness_32 hl 1 rfl ?_
    refine r_bipush (z := -2) C dX4_witness_33 rfl ?_
    refine r_callW (rest := []) (r := some (.int (iI ((-2))))) (wr := tW g (ma 1) ta T ++ (uW g (ma 2) sa U ++ (xW g (ma 3) xa X ++ pW g p0 a0 P0))) (ws2 := fW g o ma (fRef (-2) M) ++ (tW g (ma 1) ta T ++ (uW g (ma 2) sa U ++ (xW g (ma 3) xa X ++ pW g p0 a0 P0)))) (st1 := [.int (iI ((-2)))]) C hl.1 hW hA (c_X4_refused l g o ma M (-2) (by assumption) (show rg (-2) by omega)) v_X4_90 rfl [0, 1] [2, 3, 4, 5, 6, 7, 8, 9, 10, 11, 12, 13, 14, 15, 16, 17, 18, 19, 20, 21, 22, 23, 24] [23, 24, 0, 1, 2, 3, 4, 5, 6, 7, 8, 9, 10, 11, 12, 13, 14, 15, 16, 17, 18, 19, 20, 21, 22] rfl rfl (by decide) (by decide) rfl rfl 0 rfl rfl rfl (by decide) (by decide) (Nat.le_of_ble_eq_true rfl) dX4_witness_35 rfl rfl (fun H locs hW => ?_)
    have hE : fWitness P0 n f i M T = ((-2), fRef (-2) M, T) := by unfold fWitness fWitA; (repeat' split) <;> first | rfl | (exfalso; omega)
    exact MW_iret C hAe hrt hlk hW dX4_witness_38 (iw (by rw [hE])) (by rw [hE])
  · skip
    refine r_iload_n C dX4_witness_20 hl 3 rfl ?_
    refine r_callRS (rest := []) (r := .int (iI (bI (0 ≤ f ∧ f < 8)))) C hl.1 (c_X4_isFact l g  f (show rg f by omega)) v_X4_111 rfl (fun k q h => by simp at h) (by decide) (by decide) (Nat.le_of_ble_eq_true rfl) dX4_witness_21 rfl ?_
    refine r_ifb_eq C 32 dX4_witness_24 (by decide) (fun hc2 => ?_) (fun hc2 => ?_)
    · skip
      refine r_aload_n C dX4_witness_32 hl 1 rfl ?_
      refine r_bipush (z := -2) C dX4_witness_33 rfl ?_
      refine r_callW (rest := []) (r := some (.int (iI ((-2))))) (wr := tW g (ma 1) ta T ++ (uW g (ma 2) sa U ++ (xW g (ma 3) xa X ++ pW g p0 a0 P0))) (ws2 := fW g o ma (fRef (-2) M) ++ (tW g (ma 1) ta T ++ (uW g (ma 2) sa U ++ (xW g (ma 3) xa X ++ pW g p0 a0 P0)))) (st1 := [.int (iI ((-2)))]) C hl.1 hW hA (c_X4_refused l g o ma M (-2) (by assumption) (show rg (-2) by omega)) v_X4_90 rfl [0, 1] [2, 3, 4, 5, 6, 7, 8, 9, 10, 11, 12, 13, 14, 15, 16, 17, 18, 19, 20, 21, 22, 23, 24] [23, 24, 0, 1, 2, 3, 4, 5, 6, 7, 8, 9, 10, 11, 12, 13, 14, 15, 16, 17, 18, 19, 20, 21, 22] rfl rfl (by decide) (by decide) rfl rfl 0 rfl rfl rfl (by decide) (by decide) (Nat.le_of_ble_eq_true rfl) dX4_witness_35 rfl rfl (fun H locs hW => ?_)
      have hE : fWitness P0 n f i M T = ((-2), fRef (-2) M, T) := by unfold fWitness fWitA; (repeat' split) <;> first | rfl | (exfalso; omega)
      exact MW_iret C hAe hrt hlk hW dX4_witness_38 (iw (by rw [hE])) (by rw [hE])
    · skip
      refine r_iload_n C dX4_witness_27 hl 4 rfl ?_
      refine r_iconst (z := -1) C dX4_witness_28 rfl ?_
      refine r_icmp_ge C 39 dX4_witness_29 (by decide) (by omega) (by omega) (fun hc3 => ?_) (fun hc3 => ?_)
      · skip
        refine r_aload_n C dX4_witness_39 hl 1 rfl ?_
        refine r_get (v := .ref (ma 1)) C f_X4_25 hW.1 0 rfl rfl dX4_witness_40 ?_
        refine r_aload C dX4_witness_43 hl 0 rfl ?_
        refine r_iconst (z := 0) C dX4_witness_45 rfl ?_
        refine r_aload C dX4_witness_46 hl 0 rfl ?_
        refine r_get (v := .int (iI (p_start P0))) C f_X4_117 hW.1 16 rfl rfl dX4_witness_48 ?_
        refine r_callW (rest := []) (r := none) (wr := fW g o ma M ++ (uW g (ma 2) sa U ++ xW g (ma 3) xa X)) (ws2 := fW g o ma M ++ (tW g (ma 1) ta (tFill P0 0 (p_start P0) T) ++ (uW g (ma 2) sa U ++ (xW g (ma 3) xa X ++ pW g p0 a0 P0)))) (st1 := []) C hl.1 hW hA (c_X2_fill l g (ma 1) ta T p0 a0 P0 0 (p_start P0) (by assumption) (by assumption) (show 0 ≤ 0 ∧ 0 < 5 by omega) (show 0 ≤ (p_start P0) ∧ (p_start P0) < 256 by omega)) v_X4_120 rfl [2, 3, 4, 5, 6, 7, 8, 9, 10, 16, 17, 18, 19, 20, 21, 22, 23, 24] [0, 1, 11, 12, 13, 14, 15] [0, 1, 7, 8, 9, 10, 11, 12, 13, 14, 15, 2, 3, 4, 5, 6, 16, 17, 18, 19, 20, 21, 22, 23, 24] rfl rfl (by decide) (by decide) rfl rfl 0 rfl rfl rfl (by decide) (by decide) (Nat.le_of_ble_eq_true rfl) dX4_witness_51 rfl rfl (fun H locs hW => ?_)
        have hok4 : tOk (tFill P0 0 (p_start P0) T) := tFill_ok (by assumption) (by assumption) (by omega) (by omega)
        have hTF : tOk (tFill P0 0 (p_start P0) T) := tFill_ok (by assumption) (by assumption) (by omega) (by omega)
        obtain ⟨hTF_ready, hTF_seedProc, hTF_seedFacts, hTF_size, hTF_seen, hTF_keys, hTF_placeOf, hTF_before, hTF_through, hTF_way, hTF_inner, hTF_sites, hTF_siteCount⟩ := id hTF
        refine r_aload_n C dX4_witness_54 hl 1 rfl ?_
        refine r_get (v := .ref (ma 1)) C f_X4_25 hW.1 0 rfl rfl dX4_witness_55 ?_
        refine r_iload_n C dX4_witness_58 hl 2 rfl ?_
        refine r_iload_n C dX4_witness_59 hl 3 rfl ?_
        refine r_callR (rest := []) (r := .int (iI (tFirst (tFill P0 0 (p_start P0) T) n f))) C hl.1 (c_X2_firstWith l g (ma 1) ta (tFill P0 0 (p_start P0) T) n f (by assumption) (show 0 ≤ n ∧ n < 24 by omega) (show 0 ≤ f ∧ f < 8 by omega)) v_X4_161 rfl (hW.1.sub [2, 3, 4, 5, 6, 7, 8, 9, 10] rfl) 0 rfl rfl rfl (by decide) (by decide) (Nat.le_of_ble_eq_true rfl) dX4_witness_60 rfl ?_
        have hfq := tFirst_q (tFill P0 0 (p_start P0) T) n f (by assumption) (by omega) (by omega)
        refine r_istore C [(5, .int (iI (tFirst (tFill P0 0 (p_start P0) T) n f))), (4, .ref (p0)), (0, .ref (o)), (1, .int (iI (n))), (2, .int (iI (f))), (3, .int (iI (i)))] dX4_witness_63 hl (by decide) rfl (fun ls hl => ?_)
        refine r_iload C dX4_witness_65 hl 0 rfl ?_
        refine r_iconst (z := -1) C dX4_witness_67 rfl ?_
        refine r_icmp_ne C 73 dX4_witness_68 (by decide) (by omega) (by omega) (fun hc5 => ?_) (fun hc5 => ?_)
        · skip
          refine r_iload_n C dX4_witness_73 hl 5 rfl ?_
          refine r_iconst (z := -1) C dX4_witness_74 rfl ?_
          refine r_icmp_ne C 89 dX4_witness_75 (by decide) (by omega) (by omega) (fun hc6 => ?_) (fun hc6 => ?_)
          · skip
            refine r_iload_n C dX4_witness_89 hl 5 rfl ?_
            refine r_aload_n C dX4_witness_90 hl 2 rfl ?_
            refine r_get (v := .ref (ma 1)) C f_X4_25 hW.1 0 rfl rfl dX4_witness_91 ?_
            refine r_get (v := .ref (ta 5)) C f_X4_164 hW.1 2 rfl rfl dX4_witness_94 ?_
            refine r_iload C dX4_witness_97 hl 0 rfl ?_
            refine r_iald (f := t_way (tFill P0 0 (p_start P0) T)) C hW.1 8 rfl (Nat.le_of_ble_eq_true rfl) (by omega) dX4_witness_99 ?_
            have hr7 := hTF_way (tFirst (tFill P0 0 (p_start P0) T) n f) (by omega) (by omega)
            refine r_icmp_ge C 116 dX4_witness_100 (by decide) (by omega) (by omega) (fun hc8 => ?_) (fun hc8 => ?_)
            · skip
              refine r_iconst (z := -1) C dX4_witness_116 rfl ?_
              have hE : fWitness P0 n f i M T = (-1, M, tFill P0 0 (p_start P0) T) := by unfold fWitness fWitA; (repeat' split) <;> first | rfl | (exfalso; omega)
              exact MW_iret C hAe hrt hlk hW dX4_witness_117 (iw (by rw [hE])) (by rw [hE])
            · skip
              refine r_aload_n C dX4_witness_103 hl 2 rfl ?_
              refine r_get (v := .ref (ma 1)) C f_X4_25 hW.1 0 rfl rfl dX4_witness_104 ?_
              refine r_iload C dX4_witness_107 hl 0 rfl ?_
              refine r_iload_n C dX4_witness_109 hl 5 rfl ?_
              refine r_callR (rest := []) (r := .int (iI (tPairOf (tFill P0 0 (p_start P0) T) (tFirst (tFill P0 0 (p_start P0) T) n f) i))) C hl.1 (c_X2_pairOfWay l g (ma 1) ta (tFill P0 0 (p_start P0) T) (tFirst (tFill P0 0 (p_start P0) T) n f) i (by assumption) (show 0 ≤ (tFirst (tFill P0 0 (p_start P0) T) n f) ∧ (tFirst (tFill P0 0 (p_start P0) T) n f) < 1536 by omega) (show 0 ≤ i ∧ i < 1000 by omega)) v_X4_167 rfl (hW.1.sub [2, 3, 4, 5, 6, 7, 8, 9, 10] rfl) 0 rfl rfl rfl (by decide) (by decide) (Nat.le_of_ble_eq_true rfl) dX4_witness_110 rfl ?_
              refine r_goto C 117 dX4_witness_113 (by decide) ?_
              have hE : fWitness P0 n f i M T = (tPairOf (tFill P0 0 (p_start P0) T) (tFirst (tFill P0 0 (p_start P0) T) n f) i, M, tFill P0 0 (p_start P0) T) := by unfold fWitness fWitA; (repeat' split) <;> first | rfl | (exfalso; omega)
              exact MW_iret C hAe hrt hlk hW dX4_witness_117 (iw (by rw [hE])) (by rw [hE])
          · skip
            refine r_aload_n C dX4_witness_78 hl 2 rfl ?_
            refine r_get (v := .ref (ma 1)) C f_X4_25 hW.1 0 rfl rfl dX4_witness_79 ?_
            refine r_get (v := .ref (ta 5)) C f_X4_164 hW.1 2 rfl rfl dX4_witness_82 ?_
            refine r_iload C dX4_witness_85 hl 0 rfl ?_
            refine r_iald (f := t_way (tFill P0 0 (p_start P0) T)) C hW.1 8 rfl (Nat.le_of_ble_eq_true rfl) (by omega) dX4_witness_87 ?_
            have hr9 := hTF_way (tFirst (tFill P0 0 (p_start P0) T) n f) (by omega) (by omega)
            have hE : fWitness P0 n f i M T = ((t_way (tFill P0 0 (p_start P0) T)) (tFirst (tFill P0 0 (p_start P0) T) n f), M, tFill P0 0 (p_start P0) T) := by unfold fWitness fWitA; (repeat' split) <;> first | rfl | (exfalso; omega)
            exact MW_iret C hAe hrt hlk hW dX4_witness_88 (iw (by rw [hE])) (by rw [hE])
        · skip
          refine r_iconst (z := -1) C dX4_witness_71 rfl ?_
          have hE : fWitness P0 n f i M T = (-1, M, tFill P0 0 (p_start P0) T) := by unfold fWitness fWitA; (repeat' split) <;> first | rfl | (exfalso; omega)
          exact MW_iret C hAe hrt hlk hW dX4_witness_72 (iw (by rw [hE])) (by rw [hE])
      · skip
        refine r_aload_n C dX4_witness_32 hl 1 rfl ?_
        refine r_bipush (z := -2) C dX4_witness_33 rfl ?_
        refine r_callW (rest := []) (r := some (.int (iI ((-2))))) (wr := tW g (ma 1) ta T ++ (uW g (ma 2) sa U ++ (xW g (ma 3) xa X ++ pW g p0 a0 P0))) (ws2 := fW g o ma (fRef (-2) M) ++ (tW g (ma 1) ta T ++ (uW g (ma 2) sa U ++ (xW g (ma 3) xa X ++ pW g p0 a0 P0)))) (st1 := [.int (iI ((-2)))]) C hl.1 hW hA (c_X4_refused l g o ma M (-2) (by assumption) (show rg (-2) by omega)) v_X4_90 rfl [0, 1] [2, 3, 4, 5, 6, 7, 8, 9, 10, 11, 12, 13, 14, 15, 16, 17, 18, 19, 20, 21, 22, 23, 24] [23, 24, 0, 1, 2, 3, 4, 5, 6, 7, 8, 9, 10, 11, 12, 13, 14, 15, 16, 17, 18, 19, 20, 21, 22] rfl rfl (by decide) (by decide) rfl rfl 0 rfl rfl rfl (by decide) (by decide) (Nat.le_of_ble_eq_true rfl) dX4_witness_35 rfl rfl (fun H locs hW => ?_)
        have hE : fWitness P0 n f i M T = ((-2), fRef (-2) M, T) := by unfold fWitness fWitA; (repeat' split) <;> first | rfl | (exfalso; omega)
        exact MW_iret C hAe hrt hlk hW dX4_witness_38 (iw (by rw [hE])) (by rw [hE])
set_option maxHeartbeats 4000000 in
set_option maxRecDepth 100000 in
theorem c_X4_type (l : Launch) (g : GG) (o : Nat) (ma : Nat → Nat) (M : Mf) (ta : Nat → Nat) (T : Tb) (sa : Nat → Nat) (U : Sp) (xa : Nat → Nat) (X : Tx) (p0 : Nat) (a0 : Nat → Nat) (P0 : Pg) (c : Int) (hM : fOk M) (hT : tOk T) (hU : uOk U) (hX : xOk X) (hP0 : pOk P0) (hr0 : f_rows M (f_now M).toNat = some p0) (h_c : rg c) : MW l g yX4_type cX4_type 2 (some .int) 1 21 [.ref (o), .int (iI (c))] (fW g o ma M ++ (tW g (ma 1) ta T ++ (uW g (ma 2) sa U ++ (xW g (ma 3) xa X ++ pW g p0 a0 P0)))) (fW g o ma ((fType c M X).2.1) ++ (tW g (ma 1) ta T ++ (uW g (ma 2) sa U ++ (xW g (ma 3) xa ((fType c M X).2.2) ++ pW g p0 a0 P0)))) (some (.int (iI ((fType c M X).1)))) := by
  refine MW_start (by decide) (Nat.le_of_ble_eq_true rfl) ?_
  intro zp ze zs zm zb zt zc A hAe C hrt hlk hW ls hl
  have hA : ∀ q, zs.heap.size ≤ q → A q := fun q h => by rw [hAe]; exact Or.inr h
  have hl : lv_has ls 2 [(0, .ref (o)), (1, .int (iI (c)))] := hl
  obtain ⟨hM_now, hM_states, hM_timesBad, hM_timesNo, hM_timesFull⟩ := id hM
  obtain ⟨hT_ready, hT_seedProc, hT_seedFacts, hT_size, hT_seen, hT_keys, hT_placeOf, hT_before, hT_through, hT_way, hT_inner, hT_sites, hT_siteCount⟩ := id hT
  obtain ⟨hU_ready, hU_reached⟩ := id hU
  obtain ⟨hX_length, hX_orders, hX_bytes, hX_parts, hX_place⟩ := id hX
  obtain ⟨hP0_procs, hP0_nodes, hP0_edges, hP0_start, hP0_entryOf, hP0_exitOf, hP0_procOf, hP0_kindOf, hP0_from, hP0_to, hP0_callee⟩ := id hP0
  refine r_iload_n C dX4_type_0 hl 1 rfl ?_
  refine r_if_lt C 10 dX4_type_1 (by decide) (by omega) (fun hc1 => ?_) (fun hc1 => ?_)
  · skip
    refine r_aload_n C dX4_type_10 hl 0 rfl ?_
    refine r_bipush (z := -2) C dX4_type_11 rfl ?_
    refine r_callW (rest := []) (r := some (.int (iI ((-2))))) (wr := tW g (ma 1) ta T ++ (uW g (ma 2) sa U ++ (xW g (ma 3) xa X ++ pW g p0 a0 P0))) (ws2 := fW g o ma (fRef (-2) M) ++ (tW g (ma 1) ta T ++ (uW g (ma 2) sa U ++ (xW g (ma 3) xa X ++ pW g p0 a0 P0)))) (st1 := [.int (iI ((-2)))]) C hl.1 hW hA (c_X4_refused l g o ma M (-2) (by assumption) (show rg (-2) by omega)) v_X4_90 rfl [0, 1] [2, 3, 4, 5, 6, 7, 8, 9, 10, 11, 12, 13, 14, 15, 16, 17, 18, 19, 20, 21, 22, 23, 24] [23, 24, 0, 1, 2, 3, 4, 5, 6, 7, 8, 9, 10, 11, 12, 13, 14, 15, 16, 17, 18, 19, 20, 21, 22] rfl rfl (by decide) (by decide) rfl rfl 0 rfl rfl rfl (by decide) (by decide) (Nat.le_of_ble_eq_true rfl) dX4_type_13 rfl rfl (fun H locs hW => ?_)
    have hE : fType c M X = ((-2), fRef (-2) M, X) := if_neg (by omega)
    exact MW_iret C hAe hrt hlk hW dX4_type_16 (iw (by rw [hE])) (by rw [hE])
  · skip
    refine r_iload_n C dX4_type_4 hl 1 rfl ?_
    refine r_bipush (z := 127) C dX4_type_5 rfl ?_
    refine r_icmp_le C 17 dX4_type_7 (by decide) (by omega) (by omega) (fun hc2 => ?_) (fun hc2 => ?_)
    · skip
      refine r_aload_n C dX4_type_17 hl 0 rfl ?_
      refine r_get (v := .ref (ma 3)) C f_X4_39 hW.1 0 rfl rfl dX4_type_18 ?_
      refine r_iload_n C dX4_type_21 hl 1 rfl ?_
      refine r_callW (rest := []) (r := some (.int (iI (bI ((x_length X) < 120))))) (wr := fW g o ma M ++ (tW g (ma 1) ta T ++ (uW g (ma 2) sa U ++ pW g p0 a0 P0))) (ws2 := fW g o ma M ++ (tW g (ma 1) ta T ++ (uW g (ma 2) sa U ++ (xW g (ma 3) xa (xApp c X) ++ pW g p0 a0 P0)))) (st1 := [.int (iI (bI ((x_length X) < 120)))]) C hl.1 hW hA (c_X3_append l g (ma 3) xa X c (by assumption)) v_X4_170 rfl [13, 14, 15] [0, 1, 2, 3, 4, 5, 6, 7, 8, 9, 10, 11, 12, 16, 17, 18, 19, 20, 21, 22, 23, 24] [0, 1, 2, 3, 4, 5, 6, 7, 8, 9, 10, 11, 12, 22, 23, 24, 13, 14, 15, 16, 17, 18, 19, 20, 21] rfl rfl (by decide) (by decide) rfl rfl 0 rfl rfl rfl (by decide) (by decide) (Nat.le_of_ble_eq_true rfl) dX4_type_22 rfl rfl (fun H locs hW => ?_)
      have hxl : x_length X < 120 → x_length (xApp c X) = x_length X + 1 := fun h => by unfold xApp; rw [if_neg (by omega)]
      have hxe : ¬ x_length X < 120 → xApp c X = X := fun h => by unfold xApp; rw [if_pos (by omega)]
      refine r_ifb_eq C 38 dX4_type_25 (by decide) (fun hc3 => ?_) (fun hc3 => ?_)
      · skip
        refine r_aload_n C dX4_type_38 hl 0 rfl ?_
        refine r_bipush (z := -4) C dX4_type_39 rfl ?_
        refine r_callW (rest := []) (r := some (.int (iI ((-4))))) (wr := tW g (ma 1) ta T ++ (uW g (ma 2) sa U ++ (xW g (ma 3) xa (xApp c X) ++ pW g p0 a0 P0))) (ws2 := fW g o ma (fRef (-4) M) ++ (tW g (ma 1) ta T ++ (uW g (ma 2) sa U ++ (xW g (ma 3) xa (xApp c X) ++ pW g p0 a0 P0)))) (st1 := [.int (iI ((-4)))]) C hl.1 hW hA (c_X4_refused l g o ma M (-4) (by assumption) (show rg (-4) by omega)) v_X4_90 rfl [0, 1] [2, 3, 4, 5, 6, 7, 8, 9, 10, 11, 12, 13, 14, 15, 16, 17, 18, 19, 20, 21, 22, 23, 24] [23, 24, 0, 1, 2, 3, 4, 5, 6, 7, 8, 9, 10, 11, 12, 13, 14, 15, 16, 17, 18, 19, 20, 21, 22] rfl rfl (by decide) (by decide) rfl rfl 0 rfl rfl rfl (by decide) (by decide) (Nat.le_of_ble_eq_true rfl) dX4_type_41 rfl rfl (fun H locs hW => ?_)
        have hE : fType c M X = ((-4), fRef (-4) M, xApp c X) := by unfold fType; rw [if_pos (show 0 ≤ c ∧ c ≤ 127 by omega)]; first | (rw [if_pos (show x_length X < 120 by omega), hxl (by omega)]; done) | (rw [if_neg (show ¬ x_length X < 120 by omega), hxe (by omega)])
        exact MW_iret C hAe hrt hlk hW dX4_type_44 (iw (by rw [hE])) (by rw [hE])
      · skip
        refine r_aload_n C dX4_type_28 hl 0 rfl ?_
        refine r_get (v := .ref (ma 3)) C f_X4_39 hW.1 0 rfl rfl dX4_type_29 ?_
        refine r_get (v := .int (iI (x_length (xApp c X)))) C f_X4_173 hW.1 13 rfl rfl dX4_type_32 ?_
        refine r_goto C 44 dX4_type_35 (by decide) ?_
        have hE : fType c M X = (x_length (xApp c X), M, xApp c X) := by unfold fType; rw [if_pos (show 0 ≤ c ∧ c ≤ 127 by omega)]; first | (rw [if_pos (show x_length X < 120 by omega), hxl (by omega)]; done) | (rw [if_neg (show ¬ x_length X < 120 by omega), hxe (by omega)])
        exact MW_iret C hAe hrt hlk hW dX4_type_44 (iw (by rw [hE])) (by rw [hE])
    · skip
      refine r_aload_n C dX4_type_10 hl 0 rfl ?_
      refine r_bipush (z := -2) C dX4_type_11 rfl ?_
      refine r_callW (rest := []) (r := some (.int (iI ((-2))))) (wr := tW g (ma 1) ta T ++ (uW g (ma 2) sa U ++ (xW g (ma 3) xa X ++ pW g p0 a0 P0))) (ws2 := fW g o ma (fRef (-2) M) ++ (tW g (ma 1) ta T ++ (uW g (ma 2) sa U ++ (xW g (ma 3) xa X ++ pW g p0 a0 P0)))) (st1 := [.int (iI ((-2)))]) C hl.1 hW hA (c_X4_refused l g o ma M (-2) (by assumption) (show rg (-2) by omega)) v_X4_90 rfl [0, 1] [2, 3, 4, 5, 6, 7, 8, 9, 10, 11, 12, 13, 14, 15, 16, 17, 18, 19, 20, 21, 22, 23, 24] [23, 24, 0, 1, 2, 3, 4, 5, 6, 7, 8, 9, 10, 11, 12, 13, 14, 15, 16, 17, 18, 19, 20, 21, 22] rfl rfl (by decide) (by decide) rfl rfl 0 rfl rfl rfl (by decide) (by decide) (Nat.le_of_ble_eq_true rfl) dX4_type_13 rfl rfl (fun H locs hW => ?_)
      have hE : fType c M X = ((-2), fRef (-2) M, X) := if_neg (by omega)
      exact MW_iret C hAe hrt hlk hW dX4_type_16 (iw (by rw [hE])) (by rw [hE])
set_option maxHeartbeats 4000000 in
set_option maxRecDepth 100000 in
theorem c_X4_clear (l : Launch) (g : GG) (o : Nat) (ma : Nat → Nat) (M : Mf) (ta : Nat → Nat) (T : Tb) (sa : Nat → Nat) (U : Sp) (xa : Nat → Nat) (X : Tx) (p0 : Nat) (a0 : Nat → Nat) (P0 : Pg) (hM : fOk M) (hT : tOk T) (hU : uOk U) (hX : xOk X) (hP0 : pOk P0) (hr0 : f_rows M (f_now M).toNat = some p0) : MW l g yX4_clear cX4_clear 2 (some .int) 0 0 [.ref (o)] (fW g o ma M ++ (tW g (ma 1) ta T ++ (uW g (ma 2) sa U ++ (xW g (ma 3) xa X ++ pW g p0 a0 P0)))) (fW g o ma M ++ (tW g (ma 1) ta T ++ (uW g (ma 2) sa U ++ (xW g (ma 3) xa (xs_length X 0) ++ pW g p0 a0 P0)))) (some (.int (iI (x_length X)))) := by
  refine MW_start (by decide) (Nat.le_of_ble_eq_true rfl) ?_
  intro zp ze zs zm zb zt zc A hAe C hrt hlk hW ls hl
  have hA : ∀ q, zs.heap.size ≤ q → A q := fun q h => by rw [hAe]; exact Or.inr h
  have hl : lv_has ls 2 [(0, .ref (o))] := hl
  obtain ⟨hM_now, hM_states, hM_timesBad, hM_timesNo, hM_timesFull⟩ := id hM
  obtain ⟨hT_ready, hT_seedProc, hT_seedFacts, hT_size, hT_seen, hT_keys, hT_placeOf, hT_before, hT_through, hT_way, hT_inner, hT_sites, hT_siteCount⟩ := id hT
  obtain ⟨hU_ready, hU_reached⟩ := id hU
  obtain ⟨hX_length, hX_orders, hX_bytes, hX_parts, hX_place⟩ := id hX
  obtain ⟨hP0_procs, hP0_nodes, hP0_edges, hP0_start, hP0_entryOf, hP0_exitOf, hP0_procOf, hP0_kindOf, hP0_from, hP0_to, hP0_callee⟩ := id hP0
  refine r_aload_n C dX4_clear_0 hl 0 rfl ?_
  refine r_get (v := .ref (ma 3)) C f_X4_39 hW.1 0 rfl rfl dX4_clear_1 ?_
  refine r_get (v := .int (iI (x_length X))) C f_X4_173 hW.1 13 rfl rfl dX4_clear_4 ?_
  refine r_istore_n C [(1, .int (iI (x_length X))), (0, .ref (o))] dX4_clear_7 hl (by decide) rfl (fun ls hl => ?_)
  refine r_aload_n C dX4_clear_8 hl 1 rfl ?_
  refine r_get (v := .ref (ma 3)) C f_X4_39 hW.1 0 rfl rfl dX4_clear_9 ?_
  refine r_iconst (z := 0) C dX4_clear_12 rfl ?_
  refine r_put C f_X4_173 fp_3_0 hW (fW g o ma M ++ (tW g (ma 1) ta T ++ (uW g (ma 2) sa U ++ (xW g (ma 3) xa (xs_length X 0) ++ pW g p0 a0 P0)))) 13 rfl rfl rfl (Nat.le_of_ble_eq_true rfl) rfl dX4_clear_13 (fun H locs hW => ?_)
  refine r_iload_n C dX4_clear_16 hl 0 rfl ?_
  exact MW_iret C hAe hrt hlk hW dX4_clear_17 (iw rfl) rfl
set_option maxHeartbeats 4000000 in
set_option maxRecDepth 100000 in
theorem c_X4_back (l : Launch) (g : GG) (o : Nat) (ma : Nat → Nat) (M : Mf) (ta : Nat → Nat) (T : Tb) (sa : Nat → Nat) (U : Sp) (xa : Nat → Nat) (X : Tx) (p0 : Nat) (a0 : Nat → Nat) (P0 : Pg) (hM : fOk M) (hT : tOk T) (hU : uOk U) (hX : xOk X) (hP0 : pOk P0) (hr0 : f_rows M (f_now M).toNat = some p0) : MW l g yX4_back cX4_back 1 (some .int) 1 21 [.ref (o)] (fW g o ma M ++ (tW g (ma 1) ta T ++ (uW g (ma 2) sa U ++ (xW g (ma 3) xa X ++ pW g p0 a0 P0)))) (fW g o ma ((fBack M T U).2.1) ++ (tW g (ma 1) ta ((fBack M T U).2.2.1) ++ (uW g (ma 2) sa ((fBack M T U).2.2.2) ++ (xW g (ma 3) xa X ++ pW g p0 a0 P0)))) (some (.int (iI ((fBack M T U).1)))) := by
  refine MW_start (by decide) (Nat.le_of_ble_eq_true rfl) ?_
  intro zp ze zs zm zb zt zc A hAe C hrt hlk hW ls hl
  have hA : ∀ q, zs.heap.size ≤ q → A q := fun q h => by rw [hAe]; exact Or.inr h
  have hl : lv_has ls 1 [(0, .ref (o))] := hl
  obtain ⟨hM_now, hM_states, hM_timesBad, hM_timesNo, hM_timesFull⟩ := id hM
  obtain ⟨hT_ready, hT_seedProc, hT_seedFacts, hT_size, hT_seen, hT_keys, hT_placeOf, hT_before, hT_through, hT_way, hT_inner, hT_sites, hT_siteCount⟩ := id hT
  obtain ⟨hU_ready, hU_reached⟩ := id hU
  obtain ⟨hX_length, hX_orders, hX_bytes, hX_parts, hX_place⟩ := id hX
  obtain ⟨hP0_procs, hP0_nodes, hP0_edges, hP0_start, hP0_entryOf, hP0_exitOf, hP0_procOf, hP0_kindOf, hP0_from, hP0_to, hP0_callee⟩ := id hP0
  refine r_aload_n C dX4_back_0 hl 0 rfl ?_
  refine r_get (v := .int (iI (f_states M))) C f_X4_19 hW.1 0 rfl rfl dX4_back_1 ?_
  refine r_if_ne C 14 dX4_back_4 (by decide) (by omega) (fun hc1 => ?_) (fun hc1 => ?_)
  · skip
    refine r_aload_n C dX4_back_14 hl 0 rfl ?_
    refine r_dup C rfl dX4_back_15 ?_
    refine r_get (v := .int (iI (f_states M))) C f_X4_19 hW.1 0 rfl rfl dX4_back_16 ?_
    refine r_iconst (z := 1) C dX4_back_19 rfl ?_
    refine r_isub C dX4_back_20 ?_
    refine r_put C f_X4_19 fp_4_2 hW (fW g o ma (fs_states M ((f_states M) - 1)) ++ (tW g (ma 1) ta T ++ (uW g (ma 2) sa U ++ (xW g (ma 3) xa X ++ pW g p0 a0 P0)))) 0 rfl rfl rfl (Nat.le_of_ble_eq_true rfl) rfl dX4_back_21 (fun H locs hW => ?_)
    refine r_aload_n C dX4_back_24 hl 0 rfl ?_
    refine r_aload_n C dX4_back_25 hl 0 rfl ?_
    refine r_get (v := .int (iI (f_now M))) C f_X4_15 hW.1 0 rfl rfl dX4_back_26 ?_
    refine r_bipush (z := 7) C dX4_back_29 rfl ?_
    refine r_iadd C dX4_back_31 ?_
    refine r_iconst (z := 1) C dX4_back_32 rfl ?_
    refine r_isub C dX4_back_33 ?_
    refine r_bipush (z := 7) C dX4_back_34 rfl ?_
    refine r_irem C (by omega) dX4_back_36 ?_
    refine r_callW (rest := []) (r := none) (wr := xW g (ma 3) xa X ++ pW g p0 a0 P0) (ws2 := fW g o ma (fs_now (fs_states M ((f_states M) - 1)) ((((f_now M) + 7) - 1) % 7)) ++ (tW g (ma 1) ta (ts_ready T 0) ++ (uW g (ma 2) sa (us_ready U 0) ++ (xW g (ma 3) xa X ++ pW g p0 a0 P0)))) (st1 := []) C hl.1 hW hA (c_X4_moveTo l g o ma (fs_states M ((f_states M) - 1))  ta T  sa U ((((f_now M) + 7) - 1) % 7)) v_X4_185 rfl [0, 1, 2, 3, 4, 5, 6, 7, 8, 9, 10, 11, 12] [13, 14, 15, 16, 17, 18, 19, 20, 21, 22, 23, 24] [12, 13, 14, 15, 16, 17, 18, 19, 20, 21, 22, 23, 24, 0, 1, 2, 3, 4, 5, 6, 7, 8, 9, 10, 11] rfl rfl (by decide) (by decide) rfl rfl 0 rfl rfl rfl (by decide) (by decide) (Nat.le_of_ble_eq_true rfl) dX4_back_37 rfl rfl (fun H locs hW => ?_)
    refine r_aload_n C dX4_back_40 hl 0 rfl ?_
    refine r_get (v := .int (iI ((f_states M) - 1))) C f_X4_19 hW.1 0 rfl rfl dX4_back_41 ?_
    have hE : fBack M T U = ((f_states M) - 1, fs_now (fs_states M ((f_states M) - 1)) ((((f_now M) + 7) - 1) % 7), ts_ready T 0, us_ready U 0) := by unfold fBack; (repeat' split) <;> first | rfl | (exfalso; omega)
    exact MW_iret C hAe hrt hlk hW dX4_back_44 (iw (by rw [hE])) (by rw [hE])
  · skip
    refine r_aload_n C dX4_back_7 hl 0 rfl ?_
    refine r_bipush (z := -3) C dX4_back_8 rfl ?_
    refine r_callW (rest := []) (r := some (.int (iI ((-3))))) (wr := tW g (ma 1) ta T ++ (uW g (ma 2) sa U ++ (xW g (ma 3) xa X ++ pW g p0 a0 P0))) (ws2 := fW g o ma (fRef (-3) M) ++ (tW g (ma 1) ta T ++ (uW g (ma 2) sa U ++ (xW g (ma 3) xa X ++ pW g p0 a0 P0)))) (st1 := [.int (iI ((-3)))]) C hl.1 hW hA (c_X4_refused l g o ma M (-3) (by assumption) (show rg (-3) by omega)) v_X4_90 rfl [0, 1] [2, 3, 4, 5, 6, 7, 8, 9, 10, 11, 12, 13, 14, 15, 16, 17, 18, 19, 20, 21, 22, 23, 24] [23, 24, 0, 1, 2, 3, 4, 5, 6, 7, 8, 9, 10, 11, 12, 13, 14, 15, 16, 17, 18, 19, 20, 21, 22] rfl rfl (by decide) (by decide) rfl rfl 0 rfl rfl rfl (by decide) (by decide) (Nat.le_of_ble_eq_true rfl) dX4_back_10 rfl rfl (fun H locs hW => ?_)
    have hE : fBack M T U = ((-3), fRef (-3) M, T, U) := by unfold fBack; (repeat' split) <;> first | rfl | (exfalso; omega)
    exact MW_iret C hAe hrt hlk hW dX4_back_13 (iw (by rw [hE])) (by rw [hE])
set_option maxHeartbeats 4000000 in
set_option maxRecDepth 100000 in
theorem c_X4_told (l : Launch) (g : GG) (o : Nat) (ma : Nat → Nat) (M : Mf) (ta : Nat → Nat) (T : Tb) (sa : Nat → Nat) (U : Sp) (xa : Nat → Nat) (X : Tx) (p0 : Nat) (a0 : Nat → Nat) (P0 : Pg) (w : Int) (hM : fOk M) (hT : tOk T) (hU : uOk U) (hX : xOk X) (hP0 : pOk P0) (hr0 : f_rows M (f_now M).toNat = some p0) (h_w : rg w) : MW l g yX4_told cX4_told 2 (some .int) 1 21 [.ref (o), .int (iI (w))] (fW g o ma M ++ (tW g (ma 1) ta T ++ (uW g (ma 2) sa U ++ (xW g (ma 3) xa X ++ pW g p0 a0 P0)))) (fW g o ma ((fTold w M X).2) ++ (tW g (ma 1) ta T ++ (uW g (ma 2) sa U ++ (xW g (ma 3) xa X ++ pW g p0 a0 P0)))) (some (.int (iI ((fTold w M X).1)))) := by
  refine MW_start (by decide) (Nat.le_of_ble_eq_true rfl) ?_
  intro zp ze zs zm zb zt zc A hAe C hrt hlk hW ls hl
  have hA : ∀ q, zs.heap.size ≤ q → A q := fun q h => by rw [hAe]; exact Or.inr h
  have hl : lv_has ls 2 [(0, .ref (o)), (1, .int (iI (w)))] := hl
  obtain ⟨hM_now, hM_states, hM_timesBad, hM_timesNo, hM_timesFull⟩ := id hM
  obtain ⟨hT_ready, hT_seedProc, hT_seedFacts, hT_size, hT_seen, hT_keys, hT_placeOf, hT_before, hT_through, hT_way, hT_inner, hT_sites, hT_siteCount⟩ := id hT
  obtain ⟨hU_ready, hU_reached⟩ := id hU
  obtain ⟨hX_length, hX_orders, hX_bytes, hX_parts, hX_place⟩ := id hX
  obtain ⟨hP0_procs, hP0_nodes, hP0_edges, hP0_start, hP0_entryOf, hP0_exitOf, hP0_procOf, hP0_kindOf, hP0_from, hP0_to, hP0_callee⟩ := id hP0
  refine r_iload_n C dX4_told_0 hl 1 rfl ?_
  refine r_if_lt C 9 dX4_told_1 (by decide) (by omega) (fun hc1 => ?_) (fun hc1 => ?_)
  · skip
    refine r_aload_n C dX4_told_9 hl 0 rfl ?_
    refine r_bipush (z := -2) C dX4_told_10 rfl ?_
    refine r_callW (rest := []) (r := some (.int (iI ((-2))))) (wr := tW g (ma 1) ta T ++ (uW g (ma 2) sa U ++ (xW g (ma 3) xa X ++ pW g p0 a0 P0))) (ws2 := fW g o ma (fRef (-2) M) ++ (tW g (ma 1) ta T ++ (uW g (ma 2) sa U ++ (xW g (ma 3) xa X ++ pW g p0 a0 P0)))) (st1 := [.int (iI ((-2)))]) C hl.1 hW hA (c_X4_refused l g o ma M (-2) (by assumption) (show rg (-2) by omega)) v_X4_90 rfl [0, 1] [2, 3, 4, 5, 6, 7, 8, 9, 10, 11, 12, 13, 14, 15, 16, 17, 18, 19, 20, 21, 22, 23, 24] [23, 24, 0, 1, 2, 3, 4, 5, 6, 7, 8, 9, 10, 11, 12, 13, 14, 15, 16, 17, 18, 19, 20, 21, 22] rfl rfl (by decide) (by decide) rfl rfl 0 rfl rfl rfl (by decide) (by decide) (Nat.le_of_ble_eq_true rfl) dX4_told_12 rfl rfl (fun H locs hW => ?_)
    have hE : fTold w M X = ((-2), fRef (-2) M) := by unfold fTold; (repeat' split) <;> first | rfl | (exfalso; omega)
    exact MW_iret C hAe hrt hlk hW dX4_told_15 (iw (by rw [hE])) (by rw [hE])
  · skip
    refine r_iload_n C dX4_told_4 hl 1 rfl ?_
    refine r_iconst (z := 4) C dX4_told_5 rfl ?_
    refine r_icmp_le C 16 dX4_told_6 (by decide) (by omega) (by omega) (fun hc2 => ?_) (fun hc2 => ?_)
    · skip
      refine r_aload_n C dX4_told_16 hl 0 rfl ?_
      refine r_iload_n C dX4_told_17 hl 1 rfl ?_
      refine r_callR (rest := []) (r := .int (iI (fTally M X w))) C hl.1 (c_X4_tally l g o ma M  xa X w (show rg w by omega)) v_X4_189 rfl (hW.1.sub [0, 1, 13, 14, 15] rfl) 0 rfl rfl rfl (by decide) (by decide) (Nat.le_of_ble_eq_true rfl) dX4_told_18 rfl ?_
      have hq3 := fTally_q M X w (by assumption) (by assumption)
      have hE : fTold w M X = (fTally M X w, M) := by unfold fTold; (repeat' split) <;> first | rfl | (exfalso; omega)
      exact MW_iret C hAe hrt hlk hW dX4_told_21 (iw (by rw [hE])) (by rw [hE])
    · skip
      refine r_aload_n C dX4_told_9 hl 0 rfl ?_
      refine r_bipush (z := -2) C dX4_told_10 rfl ?_
      refine r_callW (rest := []) (r := some (.int (iI ((-2))))) (wr := tW g (ma 1) ta T ++ (uW g (ma 2) sa U ++ (xW g (ma 3) xa X ++ pW g p0 a0 P0))) (ws2 := fW g o ma (fRef (-2) M) ++ (tW g (ma 1) ta T ++ (uW g (ma 2) sa U ++ (xW g (ma 3) xa X ++ pW g p0 a0 P0)))) (st1 := [.int (iI ((-2)))]) C hl.1 hW hA (c_X4_refused l g o ma M (-2) (by assumption) (show rg (-2) by omega)) v_X4_90 rfl [0, 1] [2, 3, 4, 5, 6, 7, 8, 9, 10, 11, 12, 13, 14, 15, 16, 17, 18, 19, 20, 21, 22, 23, 24] [23, 24, 0, 1, 2, 3, 4, 5, 6, 7, 8, 9, 10, 11, 12, 13, 14, 15, 16, 17, 18, 19, 20, 21, 22] rfl rfl (by decide) (by decide) rfl rfl 0 rfl rfl rfl (by decide) (by decide) (Nat.le_of_ble_eq_true rfl) dX4_told_12 rfl rfl (fun H locs hW => ?_)
      have hE : fTold w M X = ((-2), fRef (-2) M) := by unfold fTold; (repeat' split) <;> first | rfl | (exfalso; omega)
      exact MW_iret C hAe hrt hlk hW dX4_told_15 (iw (by rw [hE])) (by rw [hE])
set_option maxHeartbeats 4000000 in
set_option maxRecDepth 100000 in
theorem c_X4_obeyed (l : Launch) (g : GG) (o : Nat) (ma : Nat → Nat) (M : Mf) (xa : Nat → Nat) (X : Tx) (po : Nat) (pa : Nat → Nat) (D : Pg) (i : Int) (hX : xOk X) (hD : pOk D) (hi : 0 ≤ i ∧ i < 60) : MW l g yX4_obeyed cX4_obeyed 6 (some .int) 3 71 [.ref (o), .ref (po), .int (iI (i))] (fW g o ma M ++ (xW g (ma 3) xa X ++ pW g po pa D)) (fW g o ma M ++ (xW g (ma 3) xa X ++ pW g po pa ((fObey X i D).2))) (some (.int (iI ((fObey X i D).1)))) := by
  refine MW_start (by decide) (Nat.le_of_ble_eq_true rfl) ?_
  intro zp ze zs zm zb zt zc A hAe C hrt hlk hW ls hl
  have hA : ∀ q, zs.heap.size ≤ q → A q := fun q h => by rw [hAe]; exact Or.inr h
  have hl : lv_has ls 6 [(0, .ref (o)), (1, .ref (po)), (2, .int (iI (i)))] := hl
  obtain ⟨hX_length, hX_orders, hX_bytes, hX_parts, hX_place⟩ := id hX
  obtain ⟨hD_procs, hD_nodes, hD_edges, hD_start, hD_entryOf, hD_exitOf, hD_procOf, hD_kindOf, hD_from, hD_to, hD_callee⟩ := id hD
  refine r_aload_n C dX4_obeyed_0 hl 0 rfl ?_
  refine r_get (v := .ref (ma 3)) C f_X4_39 hW.1 0 rfl rfl dX4_obeyed_1 ?_
  refine r_iload_n C dX4_obeyed_4 hl 2 rfl ?_
  refine r_iconst (z := 1) C dX4_obeyed_5 rfl ?_
  refine r_callR (rest := []) (r := .int (iI ((x_parts X) (i * 5 + 1)))) C hl.1 (c_X3_part l g (ma 3) xa X i 1 (by assumption) (show 0 ≤ i ∧ i < 60 by omega) (show 0 ≤ 1 ∧ 1 < 5 by omega)) v_X4_244 rfl (hW.1.sub [2, 3, 4] rfl) 0 rfl rfl rfl (by decide) (by decide) (Nat.le_of_ble_eq_true rfl) dX4_obeyed_6 rfl ?_
  have hq1 := xPart_q X (i * 5 + 1) (by assumption) (by omega)
  refine r_istore_n C [(3, .int (iI ((x_parts X) (i * 5 + 1)))), (0, .ref (o)), (1, .ref (po)), (2, .int (iI (i)))] dX4_obeyed_9 hl (by decide) rfl (fun ls hl => ?_)
  refine r_aload_n C dX4_obeyed_10 hl 1 rfl ?_
  refine r_get (v := .ref (ma 3)) C f_X4_39 hW.1 0 rfl rfl dX4_obeyed_11 ?_
  refine r_iload_n C dX4_obeyed_14 hl 3 rfl ?_
  refine r_iconst (z := 2) C dX4_obeyed_15 rfl ?_
  refine r_callR (rest := []) (r := .int (iI ((x_parts X) (i * 5 + 2)))) C hl.1 (c_X3_part l g (ma 3) xa X i 2 (by assumption) (show 0 ≤ i ∧ i < 60 by omega) (show 0 ≤ 2 ∧ 2 < 5 by omega)) v_X4_244 rfl (hW.1.sub [2, 3, 4] rfl) 0 rfl rfl rfl (by decide) (by decide) (Nat.le_of_ble_eq_true rfl) dX4_obeyed_16 rfl ?_
  have hq2 := xPart_q X (i * 5 + 2) (by assumption) (by omega)
  refine r_istore C [(4, .int (iI ((x_parts X) (i * 5 + 2)))), (3, .int (iI ((x_parts X) (i * 5 + 1)))), (0, .ref (o)), (1, .ref (po)), (2, .int (iI (i)))] dX4_obeyed_19 hl (by decide) rfl (fun ls hl => ?_)
  refine r_aload_n C dX4_obeyed_21 hl 2 rfl ?_
  refine r_get (v := .ref (ma 3)) C f_X4_39 hW.1 0 rfl rfl dX4_obeyed_22 ?_
  refine r_iload_n C dX4_obeyed_25 hl 4 rfl ?_
  refine r_iconst (z := 3) C dX4_obeyed_26 rfl ?_
  refine r_callR (rest := []) (r := .int (iI ((x_parts X) (i * 5 + 3)))) C hl.1 (c_X3_part l g (ma 3) xa X i 3 (by assumption) (show 0 ≤ i ∧ i < 60 by omega) (show 0 ≤ 3 ∧ 3 < 5 by omega)) v_X4_244 rfl (hW.1.sub [2, 3, 4] rfl) 0 rfl rfl rfl (by decide) (by decide) (Nat.le_of_ble_eq_true rfl) dX4_obeyed_27 rfl ?_
  have hq3 := xPart_q X (i * 5 + 3) (by assumption) (by omega)
  refine r_istore C [(5, .int (iI ((x_parts X) (i * 5 + 3)))), (4, .int (iI ((x_parts X) (i * 5 + 2)))), (3, .int (iI ((x_parts X) (i * 5 + 1)))), (0, .ref (o)), (1, .ref (po)), (2, .int (iI (i)))] dX4_obeyed_30 hl (by decide) rfl (fun ls hl => ?_)
  refine r_aload_n C dX4_obeyed_32 hl 3 rfl ?_
  refine r_get (v := .ref (ma 3)) C f_X4_39 hW.1 0 rfl rfl dX4_obeyed_33 ?_
  refine r_iload_n C dX4_obeyed_36 hl 5 rfl ?_
  refine r_iconst (z := 0) C dX4_obeyed_37 rfl ?_
  refine r_callR (rest := []) (r := .int (iI ((x_parts X) (i * 5 + 0)))) C hl.1 (c_X3_part l g (ma 3) xa X i 0 (by assumption) (show 0 ≤ i ∧ i < 60 by omega) (show 0 ≤ 0 ∧ 0 < 5 by omega)) v_X4_244 rfl (hW.1.sub [2, 3, 4] rfl) 0 rfl rfl rfl (by decide) (by decide) (Nat.le_of_ble_eq_true rfl) dX4_obeyed_38 rfl ?_
  have hq4 := xPart_q X (i * 5 + 0) (by assumption) (by omega)
  by_cases hc6 : (x_parts X) (i * 5 + 0) = 99
  · refine r_tableIn C 143 dX4_obeyed_41 (by omega) (by omega) (show _ = some (102 : Int) by rw [hc6]; rfl) (by decide) ?_
    refine r_aload_n C dX4_obeyed_143 hl 4 rfl ?_
    refine r_iload_n C dX4_obeyed_144 hl 2 rfl ?_
    refine r_iload C dX4_obeyed_145 hl 1 rfl ?_
    refine r_iload C dX4_obeyed_147 hl 0 rfl ?_
    refine r_callW (rest := []) (r := some (.int (iI ((pAddCall D ((x_parts X) (i * 5 + 1)) ((x_parts X) (i * 5 + 2)) ((x_parts X) (i * 5 + 3))).1)))) (wr := fW g o ma M ++ xW g (ma 3) xa X) (ws2 := fW g o ma M ++ (xW g (ma 3) xa X ++ pW g po pa ((pAddCall D ((x_parts X) (i * 5 + 1)) ((x_parts X) (i * 5 + 2)) ((x_parts X) (i * 5 + 3))).2))) (st1 := [.int (iI ((pAddCall D ((x_parts X) (i * 5 + 1)) ((x_parts X) (i * 5 + 2)) ((x_parts X) (i * 5 + 3))).1))]) C hl.1 hW hA (c_X0_addCall l g po pa D ((x_parts X) (i * 5 + 1)) ((x_parts X) (i * 5 + 2)) ((x_parts X) (i * 5 + 3)) (by assumption) (show rg ((x_parts X) (i * 5 + 1)) by omega) (show rg ((x_parts X) (i * 5 + 2)) by omega) (show rg ((x_parts X) (i * 5 + 3)) by omega)) v_X4_72 rfl [5, 6, 7, 8, 9, 10, 11, 12, 13] [0, 1, 2, 3, 4] [0, 1, 2, 3, 4, 5, 6, 7, 8, 9, 10, 11, 12, 13] rfl rfl (by decide) (by decide) rfl rfl 0 rfl rfl rfl (by decide) (by decide) (Nat.le_of_ble_eq_true rfl) dX4_obeyed_149 rfl rfl (fun H locs hW => ?_)
    have hE : fObey X i D = ((pAddCall D ((x_parts X) (i * 5 + 1)) ((x_parts X) (i * 5 + 2)) ((x_parts X) (i * 5 + 3))).1, (pAddCall D ((x_parts X) (i * 5 + 1)) ((x_parts X) (i * 5 + 2)) ((x_parts X) (i * 5 + 3))).2) := by unfold fObey; (repeat' split) <;> first | rfl | (exfalso; omega)
    exact MW_iret C hAe hrt hlk hW dX4_obeyed_152 (iw (by rw [hE])) (by rw [hE])
  by_cases hc7 : (x_parts X) (i * 5 + 0) = 101
  · refine r_tableIn C 135 dX4_obeyed_41 (by omega) (by omega) (show _ = some (94 : Int) by rw [hc7]; rfl) (by decide) ?_
    refine r_aload_n C dX4_obeyed_135 hl 4 rfl ?_
    refine r_iload_n C dX4_obeyed_136 hl 2 rfl ?_
    refine r_iload C dX4_obeyed_137 hl 1 rfl ?_
    refine r_callW (rest := []) (r := some (.int (iI ((pAddPlain D ((x_parts X) (i * 5 + 1)) ((x_parts X) (i * 5 + 2))).1)))) (wr := fW g o ma M ++ xW g (ma 3) xa X) (ws2 := fW g o ma M ++ (xW g (ma 3) xa X ++ pW g po pa ((pAddPlain D ((x_parts X) (i * 5 + 1)) ((x_parts X) (i * 5 + 2))).2))) (st1 := [.int (iI ((pAddPlain D ((x_parts X) (i * 5 + 1)) ((x_parts X) (i * 5 + 2))).1))]) C hl.1 hW hA (c_X0_addPlain l g po pa D ((x_parts X) (i * 5 + 1)) ((x_parts X) (i * 5 + 2)) (by assumption) (show rg ((x_parts X) (i * 5 + 1)) by omega) (show rg ((x_parts X) (i * 5 + 2)) by omega)) v_X4_68 rfl [5, 6, 7, 8, 9, 10, 11, 12, 13] [0, 1, 2, 3, 4] [0, 1, 2, 3, 4, 5, 6, 7, 8, 9, 10, 11, 12, 13] rfl rfl (by decide) (by decide) rfl rfl 0 rfl rfl rfl (by decide) (by decide) (Nat.le_of_ble_eq_true rfl) dX4_obeyed_139 rfl rfl (fun H locs hW => ?_)
    have hE : fObey X i D = ((pAddPlain D ((x_parts X) (i * 5 + 1)) ((x_parts X) (i * 5 + 2))).1, (pAddPlain D ((x_parts X) (i * 5 + 1)) ((x_parts X) (i * 5 + 2))).2) := by unfold fObey; (repeat' split) <;> first | rfl | (exfalso; omega)
    exact MW_iret C hAe hrt hlk hW dX4_obeyed_142 (iw (by rw [hE])) (by rw [hE])
  by_cases hc8 : (x_parts X) (i * 5 + 0) = 102
  · refine r_tableIn C 153 dX4_obeyed_41 (by omega) (by omega) (show _ = some (112 : Int) by rw [hc8]; rfl) (by decide) ?_
    refine r_aload_n C dX4_obeyed_153 hl 4 rfl ?_
    refine r_iload_n C dX4_obeyed_154 hl 2 rfl ?_
    refine r_iload C dX4_obeyed_155 hl 1 rfl ?_
    refine r_iload C dX4_obeyed_157 hl 0 rfl ?_
    refine r_aload_n C dX4_obeyed_159 hl 3 rfl ?_
    refine r_get (v := .ref (ma 3)) C f_X4_39 hW.1 0 rfl rfl dX4_obeyed_160 ?_
    refine r_iload_n C dX4_obeyed_163 hl 5 rfl ?_
    refine r_iconst (z := 4) C dX4_obeyed_164 rfl ?_
    refine r_callR (rest := [.int (iI ((x_parts X) (i * 5 + 3))), .int (iI ((x_parts X) (i * 5 + 2))), .int (iI ((x_parts X) (i * 5 + 1))), .ref (po)]) (r := .int (iI ((x_parts X) (i * 5 + 4)))) C hl.1 (c_X3_part l g (ma 3) xa X i 4 (by assumption) (show 0 ≤ i ∧ i < 60 by omega) (show 0 ≤ 4 ∧ 4 < 5 by omega)) v_X4_244 rfl (hW.1.sub [2, 3, 4] rfl) 0 rfl rfl rfl (by decide) (by decide) (Nat.le_of_ble_eq_true rfl) dX4_obeyed_165 rfl ?_
    have hq9 := xPart_q X (i * 5 + 4) (by assumption) (by omega)
    refine r_callW (rest := []) (r := some (.int (iI ((pSetFlow D ((x_parts X) (i * 5 + 1)) ((x_parts X) (i * 5 + 2)) ((x_parts X) (i * 5 + 3)) ((x_parts X) (i * 5 + 4))).1)))) (wr := fW g o ma M ++ xW g (ma 3) xa X) (ws2 := fW g o ma M ++ (xW g (ma 3) xa X ++ pW g po pa ((pSetFlow D ((x_parts X) (i * 5 + 1)) ((x_parts X) (i * 5 + 2)) ((x_parts X) (i * 5 + 3)) ((x_parts X) (i * 5 + 4))).2))) (st1 := [.int (iI ((pSetFlow D ((x_parts X) (i * 5 + 1)) ((x_parts X) (i * 5 + 2)) ((x_parts X) (i * 5 + 3)) ((x_parts X) (i * 5 + 4))).1))]) C hl.1 hW hA (c_X0_setFlow l g po pa D ((x_parts X) (i * 5 + 1)) ((x_parts X) (i * 5 + 2)) ((x_parts X) (i * 5 + 3)) ((x_parts X) (i * 5 + 4)) (by assumption) (show rg ((x_parts X) (i * 5 + 1)) by omega) (show rg ((x_parts X) (i * 5 + 2)) by omega) (show rg ((x_parts X) (i * 5 + 3)) by omega) (show rg ((x_parts X) (i * 5 + 4)) by omega)) v_X4_76 rfl [5, 6, 7, 8, 9, 10, 11, 12, 13] [0, 1, 2, 3, 4] [0, 1, 2, 3, 4, 5, 6, 7, 8, 9, 10, 11, 12, 13] rfl rfl (by decide) (by decide) rfl rfl 0 rfl rfl rfl (by decide) (by decide) (Nat.le_of_ble_eq_true rfl) dX4_obeyed_168 rfl rfl (fun H locs hW => ?_)
    have hE : fObey X i D = ((pSetFlow D ((x_parts X) (i * 5 + 1)) ((x_parts X) (i * 5 + 2)) ((x_parts X) (i * 5 + 3)) ((x_parts X) (i * 5 + 4))).1, (pSetFlow D ((x_parts X) (i * 5 + 1)) ((x_parts X) (i * 5 + 2)) ((x_parts X) (i * 5 + 3)) ((x_parts X) (i * 5 + 4))).2) := by unfold fObey; (repeat' split) <;> first | rfl | (exfalso; omega)
    exact MW_iret C hAe hrt hlk hW dX4_obeyed_171 (iw (by rw [hE])) (by rw [hE])
  by_cases hc10 : (x_parts X) (i * 5 + 0) = 110
  · refine r_tableIn C 129 dX4_obeyed_41 (by omega) (by omega) (show _ = some (88 : Int) by rw [hc10]; rfl) (by decide) ?_
    refine r_aload_n C dX4_obeyed_129 hl 4 rfl ?_
    refine r_iload_n C dX4_obeyed_130 hl 2 rfl ?_
    refine r_callW (rest := []) (r := some (.int (iI ((pAddNode D ((x_parts X) (i * 5 + 1))).1)))) (wr := fW g o ma M ++ xW g (ma 3) xa X) (ws2 := fW g o ma M ++ (xW g (ma 3) xa X ++ pW g po pa ((pAddNode D ((x_parts X) (i * 5 + 1))).2))) (st1 := [.int (iI ((pAddNode D ((x_parts X) (i * 5 + 1))).1))]) C hl.1 hW hA (c_X0_addNode l g po pa D ((x_parts X) (i * 5 + 1)) (by assumption) (show rg ((x_parts X) (i * 5 + 1)) by omega)) v_X4_65 rfl [5, 6, 7, 8, 9, 10, 11, 12, 13] [0, 1, 2, 3, 4] [0, 1, 2, 3, 4, 5, 6, 7, 8, 9, 10, 11, 12, 13] rfl rfl (by decide) (by decide) rfl rfl 0 rfl rfl rfl (by decide) (by decide) (Nat.le_of_ble_eq_true rfl) dX4_obeyed_131 rfl rfl (fun H locs hW => ?_)
    have hE : fObey X i D = ((pAddNode D ((x_parts X) (i * 5 + 1))).1, (pAddNode D ((x_parts X) (i * 5 + 1))).2) := by unfold fObey; (repeat' split) <;> first | rfl | (exfalso; omega)
    exact MW_iret C hAe hrt hlk hW dX4_obeyed_134 (iw (by rw [hE])) (by rw [hE])
  by_cases hc11 : (x_parts X) (i * 5 + 0) = 112
  · refine r_tableIn C 124 dX4_obeyed_41 (by omega) (by omega) (show _ = some (83 : Int) by rw [hc11]; rfl) (by decide) ?_
    refine r_aload_n C dX4_obeyed_124 hl 4 rfl ?_
    refine r_callW (rest := []) (r := some (.int (iI ((pAddProc D).1)))) (wr := fW g o ma M ++ xW g (ma 3) xa X) (ws2 := fW g o ma M ++ (xW g (ma 3) xa X ++ pW g po pa ((pAddProc D).2))) (st1 := [.int (iI ((pAddProc D).1))]) C hl.1 hW hA (c_X0_addProc l g po pa D  (by assumption)) v_X4_53 rfl [5, 6, 7, 8, 9, 10, 11, 12, 13] [0, 1, 2, 3, 4] [0, 1, 2, 3, 4, 5, 6, 7, 8, 9, 10, 11, 12, 13] rfl rfl (by decide) (by decide) rfl rfl 0 rfl rfl rfl (by decide) (by decide) (Nat.le_of_ble_eq_true rfl) dX4_obeyed_125 rfl rfl (fun H locs hW => ?_)
    have hE : fObey X i D = ((pAddProc D).1, (pAddProc D).2) := by unfold fObey; (repeat' split) <;> first | rfl | (exfalso; omega)
    exact MW_iret C hAe hrt hlk hW dX4_obeyed_128 (iw (by rw [hE])) (by rw [hE])
  by_cases hc12 : (x_parts X) (i * 5 + 0) = 115
  · refine r_tableIn C 172 dX4_obeyed_41 (by omega) (by omega) (show _ = some (131 : Int) by rw [hc12]; rfl) (by decide) ?_
    refine r_aload_n C dX4_obeyed_172 hl 4 rfl ?_
    refine r_iload_n C dX4_obeyed_173 hl 2 rfl ?_
    refine r_callW (rest := []) (r := some (.int (iI ((pSetStart D ((x_parts X) (i * 5 + 1))).1)))) (wr := fW g o ma M ++ xW g (ma 3) xa X) (ws2 := fW g o ma M ++ (xW g (ma 3) xa X ++ pW g po pa ((pSetStart D ((x_parts X) (i * 5 + 1))).2))) (st1 := [.int (iI ((pSetStart D ((x_parts X) (i * 5 + 1))).1))]) C hl.1 hW hA (c_X0_setStart l g po pa D ((x_parts X) (i * 5 + 1)) (by assumption) (show rg ((x_parts X) (i * 5 + 1)) by omega)) v_X4_80 rfl [5, 6, 7, 8, 9, 10, 11, 12, 13] [0, 1, 2, 3, 4] [0, 1, 2, 3, 4, 5, 6, 7, 8, 9, 10, 11, 12, 13] rfl rfl (by decide) (by decide) rfl rfl 0 rfl rfl rfl (by decide) (by decide) (Nat.le_of_ble_eq_true rfl) dX4_obeyed_174 rfl rfl (fun H locs hW => ?_)
    have hE : fObey X i D = ((pSetStart D ((x_parts X) (i * 5 + 1))).1, (pSetStart D ((x_parts X) (i * 5 + 1))).2) := by unfold fObey; (repeat' split) <;> first | rfl | (exfalso; omega)
    exact MW_iret C hAe hrt hlk hW dX4_obeyed_177 (iw (by rw [hE])) (by rw [hE])
  have hc5 : (x_parts X) (i * 5 + 0) < 99 ∨ 115 < (x_parts X) (i * 5 + 0) ∨ (99 ≤ (x_parts X) (i * 5 + 0) ∧ (x_parts X) (i * 5 + 0) ≤ 115) := by omega
  refine r_tableD C 178 dX4_obeyed_41 (by omega) (by decide) (fun hlo hhi => ?_) ?_
  · have : (x_parts X) (i * 5 + 0) = 100 ∨ (x_parts X) (i * 5 + 0) = 103 ∨ (x_parts X) (i * 5 + 0) = 104 ∨ (x_parts X) (i * 5 + 0) = 105 ∨ (x_parts X) (i * 5 + 0) = 106 ∨ (x_parts X) (i * 5 + 0) = 107 ∨ (x_parts X) (i * 5 + 0) = 108 ∨ (x_parts X) (i * 5 + 0) = 109 ∨ (x_parts X) (i * 5 + 0) = 111 ∨ (x_parts X) (i * 5 + 0) = 113 ∨ (x_parts X) (i * 5 + 0) = 114 := by omega
    rcases this with hz | hz | hz | hz | hz | hz | hz | hz | hz | hz | hz <;> (rw [hz]; rfl)
  refine r_aload_n C dX4_obeyed_178 hl 4 rfl ?_
  refine r_iload_n C dX4_obeyed_179 hl 2 rfl ?_
  refine r_callW (rest := []) (r := some (.int (iI ((pCut D ((x_parts X) (i * 5 + 1))).1)))) (wr := fW g o ma M ++ xW g (ma 3) xa X) (ws2 := fW g o ma M ++ (xW g (ma 3) xa X ++ pW g po pa ((pCut D ((x_parts X) (i * 5 + 1))).2))) (st1 := [.int (iI ((pCut D ((x_parts X) (i * 5 + 1))).1))]) C hl.1 hW hA (c_X0_cutEdge l g po pa D ((x_parts X) (i * 5 + 1)) (by assumption) (show rg ((x_parts X) (i * 5 + 1)) by omega)) v_X4_83 rfl [5, 6, 7, 8, 9, 10, 11, 12, 13] [0, 1, 2, 3, 4] [0, 1, 2, 3, 4, 5, 6, 7, 8, 9, 10, 11, 12, 13] rfl rfl (by decide) (by decide) rfl rfl 0 rfl rfl rfl (by decide) (by decide) (Nat.le_of_ble_eq_true rfl) dX4_obeyed_180 rfl rfl (fun H locs hW => ?_)
  have hE : fObey X i D = ((pCut D ((x_parts X) (i * 5 + 1))).1, (pCut D ((x_parts X) (i * 5 + 1))).2) := by unfold fObey; (repeat' split) <;> first | rfl | (exfalso; omega)
  exact MW_iret C hAe hrt hlk hW dX4_obeyed_183 (iw (by rw [hE])) (by rw [hE])

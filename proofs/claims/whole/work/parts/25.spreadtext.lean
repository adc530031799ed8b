set_option maxHeartbeats 4000000 in
set_option maxRecDepth 100000 in
theorem c_X1_addTo (l : Launch) (g : GG) (o : Nat) (ad : Nat → Nat) (U : Sp) (n x : Int) (hU : uOk U) (hn : 0 ≤ n ∧ n < 24) (hx : 0 ≤ x ∧ x < 256) : MW l g yX1_addTo cX1_addTo 4 (some .boolean) 0 0 [.ref (o), .int (iI (n)), .int (iI (x))] (uW g o ad U) (uW g o ad (us_reached U (up (u_reached U) n (bO (u_reached U n) x)))) (some (.int (iI (bI (bO (u_reached U n) x ≠ u_reached U n))))) := by
  refine MW_start (by decide) (Nat.le_of_ble_eq_true rfl) ?_
  intro zp ze zs zm zb zt zc A hAe C hrt hlk hW ls hl
  have hA : ∀ q, zs.heap.size ≤ q → A q := fun q h => by rw [hAe]; exact Or.inr h
  have hl : lv_has ls 4 [(0, .ref (o)), (1, .int (iI (n))), (2, .int (iI (x)))] := hl
  obtain ⟨hU_ready, hU_reached⟩ := id hU
  refine r_aload_n C dX1_addTo_0 hl 0 rfl ?_
  refine r_get (v := .ref (ad 0)) C f_X1_15 hW.1 0 rfl rfl dX1_addTo_1 ?_
  refine r_iload_n C dX1_addTo_4 hl 1 rfl ?_
  refine r_iald (f := u_reached U) C hW.1 1 rfl (Nat.le_of_ble_eq_true rfl) (by omega) dX1_addTo_5 ?_
  have hr1 := hU_reached n (by omega) (by omega)
  refine r_istore_n C [(3, .int (iI (u_reached U n))), (0, .ref (o)), (1, .int (iI (n))), (2, .int (iI (x)))] dX1_addTo_6 hl (by decide) rfl (fun ls hl => ?_)
  refine r_aload_n C dX1_addTo_7 hl 1 rfl ?_
  refine r_get (v := .ref (ad 0)) C f_X1_15 hW.1 0 rfl rfl dX1_addTo_8 ?_
  refine r_iload_n C dX1_addTo_11 hl 2 rfl ?_
  refine r_iload_n C dX1_addTo_12 hl 0 rfl ?_
  refine r_iload_n C dX1_addTo_13 hl 3 rfl ?_
  refine r_ior C (by omega) (by omega) dX1_addTo_14 ?_
  have hb2 := bO_0 (u_reached U n) x
  have hb3 : bO (u_reached U n) x < 256 := bO_8 (by omega) (by omega)
  refine r_iast (f := u_reached U) C hW (uW g o ad (us_reached U (up (u_reached U) n (bO (u_reached U n) x)))) 1 rfl (Nat.le_of_ble_eq_true rfl) (by omega) rfl dX1_addTo_15 (fun H locs hW => ?_)
  refine r_aload_n C dX1_addTo_16 hl 1 rfl ?_
  refine r_get (v := .ref (ad 0)) C f_X1_15 hW.1 0 rfl rfl dX1_addTo_17 ?_
  refine r_iload_n C dX1_addTo_20 hl 2 rfl ?_
  refine r_iald (f := up (u_reached U) n (bO (u_reached U n) x)) C hW.1 1 rfl (Nat.le_of_ble_eq_true rfl) (by omega) dX1_addTo_21 ?_
  rw [up_s]
  refine r_iload_n C dX1_addTo_22 hl 0 rfl ?_
  refine r_icmp_eq C 30 dX1_addTo_23 (by decide) (by omega) (by omega) (fun hc4 => ?_) (fun hc4 => ?_)
  · skip
    refine r_iconst (z := 0) C dX1_addTo_30 rfl ?_
    exact MW_zret (d := bO (u_reached U n) x ≠ u_reached U n) C hAe hrt hlk hW dX1_addTo_31 (bI_f (by first | assumption | omega)).symm rfl rfl
  · skip
    refine r_iconst (z := 1) C dX1_addTo_26 rfl ?_
    refine r_goto C 31 dX1_addTo_27 (by decide) ?_
    exact MW_zret (d := bO (u_reached U n) x ≠ u_reached U n) C hAe hrt hlk hW dX1_addTo_31 (bI_t (by first | assumption | omega)).symm rfl rfl
set_option maxHeartbeats 4000000 in
set_option maxRecDepth 100000 in
theorem c_X1_stepAlong (l : Launch) (g : GG) (o : Nat) (ad : Nat → Nat) (U : Sp) (po : Nat) (pa : Nat → Nat) (P : Pg) (e : Int) (hU : uOk U) (hP : pOk P) (he : 0 ≤ e ∧ e < 32) : MW l g yX1_stepAlong cX1_stepAlong 7 (some .boolean) 2 48 [.ref (o), .ref (po), .int (iI (e))] (uW g o ad U ++ pW g po pa P) (uW g o ad ((uStep P e U).2) ++ pW g po pa P) (some (.int (iI (bI ((uStep P e U).1 ≠ 0))))) := by
  refine MW_start (by decide) (Nat.le_of_ble_eq_true rfl) ?_
  intro zp ze zs zm zb zt zc A hAe C hrt hlk hW ls hl
  have hA : ∀ q, zs.heap.size ≤ q → A q := fun q h => by rw [hAe]; exact Or.inr h
  have hl : lv_has ls 7 [(0, .ref (o)), (1, .ref (po)), (2, .int (iI (e)))] := hl
  obtain ⟨hU_ready, hU_reached⟩ := id hU
  obtain ⟨hP_procs, hP_nodes, hP_edges, hP_start, hP_entryOf, hP_exitOf, hP_procOf, hP_kindOf, hP_from, hP_to, hP_callee⟩ := id hP
  refine r_aload_n C dX1_stepAlong_0 hl 1 rfl ?_
  refine r_get (v := .ref (pa 4)) C f_X1_35 hW.1 2 rfl rfl dX1_stepAlong_1 ?_
  refine r_iload_n C dX1_stepAlong_4 hl 2 rfl ?_
  refine r_iald (f := p_from P) C hW.1 7 rfl (Nat.le_of_ble_eq_true rfl) (by omega) dX1_stepAlong_5 ?_
  have hr1 := hP_from e (by omega) (by omega)
  refine r_istore_n C [(3, .int (iI (p_from P e))), (0, .ref (o)), (1, .ref (po)), (2, .int (iI (e)))] dX1_stepAlong_6 hl (by decide) rfl (fun ls hl => ?_)
  refine r_aload_n C dX1_stepAlong_7 hl 2 rfl ?_
  refine r_get (v := .ref (pa 5)) C f_X1_38 hW.1 2 rfl rfl dX1_stepAlong_8 ?_
  refine r_iload_n C dX1_stepAlong_11 hl 3 rfl ?_
  refine r_iald (f := p_to P) C hW.1 8 rfl (Nat.le_of_ble_eq_true rfl) (by omega) dX1_stepAlong_12 ?_
  have hr2 := hP_to e (by omega) (by omega)
  refine r_istore C [(4, .int (iI (p_to P e))), (3, .int (iI (p_from P e))), (0, .ref (o)), (1, .ref (po)), (2, .int (iI (e)))] dX1_stepAlong_13 hl (by decide) rfl (fun ls hl => ?_)
  refine r_aload_n C dX1_stepAlong_15 hl 3 rfl ?_
  refine r_get (v := .ref (pa 6)) C f_X1_41 hW.1 2 rfl rfl dX1_stepAlong_16 ?_
  refine r_iload_n C dX1_stepAlong_19 hl 4 rfl ?_
  refine r_iald (f := p_callee P) C hW.1 9 rfl (Nat.le_of_ble_eq_true rfl) (by omega) dX1_stepAlong_20 ?_
  have hr3 := hP_callee e (by omega) (by omega)
  refine r_istore C [(5, .int (iI (p_callee P e))), (4, .int (iI (p_to P e))), (3, .int (iI (p_from P e))), (0, .ref (o)), (1, .ref (po)), (2, .int (iI (e)))] dX1_stepAlong_21 hl (by decide) rfl (fun ls hl => ?_)
  refine r_aload_n C dX1_stepAlong_23 hl 3 rfl ?_
  refine r_iload C dX1_stepAlong_24 hl 1 rfl ?_
  refine r_aload_n C dX1_stepAlong_26 hl 4 rfl ?_
  refine r_iload_n C dX1_stepAlong_27 hl 5 rfl ?_
  refine r_iconst (z := 0) C dX1_stepAlong_28 rfl ?_
  refine r_aload_n C dX1_stepAlong_29 hl 3 rfl ?_
  refine r_get (v := .ref (ad 0)) C f_X1_15 hW.1 0 rfl rfl dX1_stepAlong_30 ?_
  refine r_iload_n C dX1_stepAlong_33 hl 2 rfl ?_
  refine r_iald (f := u_reached U) C hW.1 1 rfl (Nat.le_of_ble_eq_true rfl) (by omega) dX1_stepAlong_34 ?_
  have hr4 := hU_reached (p_from P e) (by omega) (by omega)
  refine r_callR (rest := [.int (iI (p_to P e)), .ref (o)]) (r := .int (iI (pCarry P e 0 (u_reached U (p_from P e))))) C hl.1 (c_X0_carry l g po pa P e 0 (u_reached U (p_from P e)) (show 0 ≤ e ∧ e < 32 by omega) (show 0 ≤ 0 ∧ 0 < 3 by omega) (show 0 ≤ (u_reached U (p_from P e)) ∧ (u_reached U (p_from P e)) < 256 by omega)) v_X1_44 rfl (hW.1.sub [2, 3, 4, 5, 6, 7, 8, 9, 10] rfl) 0 rfl rfl rfl (by decide) (by decide) (Nat.le_of_ble_eq_true rfl) dX1_stepAlong_35 rfl ?_
  have hcr := pCarry_r P e 0 (u_reached U (p_from P e))
  refine r_callW (rest := []) (r := some (.int (iI (bI (bO ((u_reached U) (p_to P e)) (pCarry P e 0 (u_reached U (p_from P e))) ≠ (u_reached U) (p_to P e)))))) (wr := pW g po pa P) (ws2 := uW g o ad (uS1 P e U) ++ pW g po pa P) (st1 := [.int (iI (bI (bO ((u_reached U) (p_to P e)) (pCarry P e 0 (u_reached U (p_from P e))) ≠ (u_reached U) (p_to P e))))]) C hl.1 hW hA (c_X1_addTo l g o ad U (p_to P e) (pCarry P e 0 (u_reached U (p_from P e))) (by assumption) (show 0 ≤ (p_to P e) ∧ (p_to P e) < 24 by omega) (show 0 ≤ (pCarry P e 0 (u_reached U (p_from P e))) ∧ (pCarry P e 0 (u_reached U (p_from P e))) < 256 by omega)) v_X1_48 rfl [0, 1] [2, 3, 4, 5, 6, 7, 8, 9, 10] [9, 10, 0, 1, 2, 3, 4, 5, 6, 7, 8] rfl rfl (by decide) (by decide) rfl rfl 0 rfl rfl rfl (by decide) (by decide) (Nat.le_of_ble_eq_true rfl) dX1_stepAlong_38 rfl rfl (fun H locs hW => ?_)
  have hok1 : uOk (uS1 P e U) := uS1_ok (by assumption) (by assumption) (by omega)
  obtain ⟨hok1_ready, hok1_reached⟩ := id hok1
  refine r_istore C [(6, .int (iI (bI (bO ((u_reached U) (p_to P e)) (pCarry P e 0 (u_reached U (p_from P e))) ≠ (u_reached U) (p_to P e))))), (5, .int (iI (p_callee P e))), (4, .int (iI (p_to P e))), (3, .int (iI (p_from P e))), (0, .ref (o)), (1, .ref (po)), (2, .int (iI (e)))] dX1_stepAlong_41 hl (by decide) rfl (fun ls hl => ?_)
  refine r_iload C dX1_stepAlong_43 hl 1 rfl ?_
  refine r_iconst (z := -1) C dX1_stepAlong_45 rfl ?_
  refine r_icmp_eq C 106 dX1_stepAlong_46 (by decide) (by omega) (by omega) (fun hc5 => ?_) (fun hc5 => ?_)
  · skip
    refine r_iload C dX1_stepAlong_106 hl 0 rfl ?_
    have hE : uStep P e U = (bI (bO ((u_reached U) (p_to P e)) (pCarry P e 0 (u_reached U (p_from P e))) ≠ (u_reached U) (p_to P e)), uS1 P e U) := if_pos hc5
    exact MW_zret (d := (uStep P e U).1 ≠ 0) C hAe hrt hlk hW dX1_stepAlong_108 ((show _ = (uStep P e U).1 by rw [hE]).trans (bI_ne (uStep_01 P e U))) rfl (by rw [hE])
  · skip
    refine r_iload C dX1_stepAlong_49 hl 0 rfl ?_
    refine r_aload_n C dX1_stepAlong_51 hl 4 rfl ?_
    refine r_aload_n C dX1_stepAlong_52 hl 5 rfl ?_
    refine r_get (v := .ref (pa 0)) C f_X1_19 hW.1 2 rfl rfl dX1_stepAlong_53 ?_
    refine r_iload C dX1_stepAlong_56 hl 1 rfl ?_
    refine r_iald (f := p_entryOf P) C hW.1 3 rfl (Nat.le_of_ble_eq_true rfl) (by omega) dX1_stepAlong_58 ?_
    have hr6 := hP_entryOf (p_callee P e) (by omega) (by omega)
    refine r_aload_n C dX1_stepAlong_59 hl 5 rfl ?_
    refine r_iload_n C dX1_stepAlong_60 hl 6 rfl ?_
    refine r_iconst (z := 1) C dX1_stepAlong_61 rfl ?_
    refine r_aload_n C dX1_stepAlong_62 hl 4 rfl ?_
    refine r_get (v := .ref (ad 0)) C f_X1_15 hW.1 0 rfl rfl dX1_stepAlong_63 ?_
    refine r_iload_n C dX1_stepAlong_66 hl 3 rfl ?_
    refine r_iald (f := u_reached (uS1 P e U)) C hW.1 1 rfl (Nat.le_of_ble_eq_true rfl) (by omega) dX1_stepAlong_67 ?_
    have hr7 := hok1_reached (p_from P e) (by omega) (by omega)
    refine r_callR (rest := [.int (iI (p_entryOf P (p_callee P e))), .ref (o), .int (iI (bI (bO ((u_reached U) (p_to P e)) (pCarry P e 0 (u_reached U (p_from P e))) ≠ (u_reached U) (p_to P e))))]) (r := .int (iI (pCarry P e 1 ((u_reached (uS1 P e U)) (p_from P e))))) C hl.1 (c_X0_carry l g po pa P e 1 ((u_reached (uS1 P e U)) (p_from P e)) (show 0 ≤ e ∧ e < 32 by omega) (show 0 ≤ 1 ∧ 1 < 3 by omega) (show 0 ≤ ((u_reached (uS1 P e U)) (p_from P e)) ∧ ((u_reached (uS1 P e U)) (p_from P e)) < 256 by omega)) v_X1_44 rfl (hW.1.sub [2, 3, 4, 5, 6, 7, 8, 9, 10] rfl) 0 rfl rfl rfl (by decide) (by decide) (Nat.le_of_ble_eq_true rfl) dX1_stepAlong_68 rfl ?_
    have hcr := pCarry_r P e 1 (u_reached (uS1 P e U) (p_from P e))
    refine r_callW (rest := [.int (iI (bI (bO ((u_reached U) (p_to P e)) (pCarry P e 0 (u_reached U (p_from P e))) ≠ (u_reached U) (p_to P e))))]) (r := some (.int (iI (bI (bO ((u_reached (uS1 P e U)) (p_entryOf P (p_callee P e))) (pCarry P e 1 ((u_reached (uS1 P e U)) (p_from P e))) ≠ (u_reached (uS1 P e U)) (p_entryOf P (p_callee P e))))))) (wr := pW g po pa P) (ws2 := uW g o ad (uS2 P e U) ++ pW g po pa P) (st1 := [.int (iI (bI (bO ((u_reached (uS1 P e U)) (p_entryOf P (p_callee P e))) (pCarry P e 1 ((u_reached (uS1 P e U)) (p_from P e))) ≠ (u_reached (uS1 P e U)) (p_entryOf P (p_callee P e))))), .int (iI (bI (bO ((u_reached U) (p_to P e)) (pCarry P e 0 (u_reached U (p_from P e))) ≠ (u_reached U) (p_to P e))))]) C hl.1 hW hA (c_X1_addTo l g o ad (uS1 P e U) (p_entryOf P (p_callee P e)) (pCarry P e 1 ((u_reached (uS1 P e U)) (p_from P e))) (by assumption) (show 0 ≤ (p_entryOf P (p_callee P e)) ∧ (p_entryOf P (p_callee P e)) < 24 by omega) (show 0 ≤ (pCarry P e 1 ((u_reached (uS1 P e U)) (p_from P e))) ∧ (pCarry P e 1 ((u_reached (uS1 P e U)) (p_from P e))) < 256 by omega)) v_X1_48 rfl [0, 1] [2, 3, 4, 5, 6, 7, 8, 9, 10] [9, 10, 0, 1, 2, 3, 4, 5, 6, 7, 8] rfl rfl (by decide) (by decide) rfl rfl 0 rfl rfl rfl (by decide) (by decide) (Nat.le_of_ble_eq_true rfl) dX1_stepAlong_71 rfl rfl (fun H locs hW => ?_)
    have hok2 : uOk (uS2 P e U) := (uS_ok (by assumption) (by assumption) (by omega) (by omega)).2.1
    obtain ⟨hok2_ready, hok2_reached⟩ := id hok2
    have hb8 := bI_r (bO ((u_reached U) (p_to P e)) (pCarry P e 0 (u_reached U (p_from P e))) ≠ (u_reached U) (p_to P e))
    have hb9 := bI_r (bO ((u_reached (uS1 P e U)) (p_entryOf P (p_callee P e))) (pCarry P e 1 ((u_reached (uS1 P e U)) (p_from P e))) ≠ (u_reached (uS1 P e U)) (p_entryOf P (p_callee P e)))
    refine r_ior C (by omega) (by omega) dX1_stepAlong_74 ?_
    have hb10 := bO_0 (bI (bO ((u_reached U) (p_to P e)) (pCarry P e 0 (u_reached U (p_from P e))) ≠ (u_reached U) (p_to P e))) (bI (bO ((u_reached (uS1 P e U)) (p_entryOf P (p_callee P e))) (pCarry P e 1 ((u_reached (uS1 P e U)) (p_from P e))) ≠ (u_reached (uS1 P e U)) (p_entryOf P (p_callee P e))))
    have hb11 : bO (bI (bO ((u_reached U) (p_to P e)) (pCarry P e 0 (u_reached U (p_from P e))) ≠ (u_reached U) (p_to P e))) (bI (bO ((u_reached (uS1 P e U)) (p_entryOf P (p_callee P e))) (pCarry P e 1 ((u_reached (uS1 P e U)) (p_from P e))) ≠ (u_reached (uS1 P e U)) (p_entryOf P (p_callee P e)))) < 256 := bO_8 (by omega) (by omega)
    refine r_istore C [(6, .int (iI (bO (bI (bO ((u_reached U) (p_to P e)) (pCarry P e 0 (u_reached U (p_from P e))) ≠ (u_reached U) (p_to P e))) (bI (bO ((u_reached (uS1 P e U)) (p_entryOf P (p_callee P e))) (pCarry P e 1 ((u_reached (uS1 P e U)) (p_from P e))) ≠ (u_reached (uS1 P e U)) (p_entryOf P (p_callee P e))))))), (5, .int (iI (p_callee P e))), (4, .int (iI (p_to P e))), (3, .int (iI (p_from P e))), (0, .ref (o)), (1, .ref (po)), (2, .int (iI (e)))] dX1_stepAlong_75 hl (by decide) rfl (fun ls hl => ?_)
    refine r_iload C dX1_stepAlong_77 hl 0 rfl ?_
    refine r_aload_n C dX1_stepAlong_79 hl 4 rfl ?_
    refine r_iload C dX1_stepAlong_80 hl 2 rfl ?_
    refine r_aload_n C dX1_stepAlong_82 hl 5 rfl ?_
    refine r_iload_n C dX1_stepAlong_83 hl 6 rfl ?_
    refine r_iconst (z := 2) C dX1_stepAlong_84 rfl ?_
    refine r_aload_n C dX1_stepAlong_85 hl 4 rfl ?_
    refine r_get (v := .ref (ad 0)) C f_X1_15 hW.1 0 rfl rfl dX1_stepAlong_86 ?_
    refine r_aload_n C dX1_stepAlong_89 hl 5 rfl ?_
    refine r_get (v := .ref (pa 1)) C f_X1_52 hW.1 2 rfl rfl dX1_stepAlong_90 ?_
    refine r_iload C dX1_stepAlong_93 hl 1 rfl ?_
    refine r_iald (f := p_exitOf P) C hW.1 4 rfl (Nat.le_of_ble_eq_true rfl) (by omega) dX1_stepAlong_95 ?_
    have hr12 := hP_exitOf (p_callee P e) (by omega) (by omega)
    refine r_iald (f := u_reached (uS2 P e U)) C hW.1 1 rfl (Nat.le_of_ble_eq_true rfl) (by omega) dX1_stepAlong_96 ?_
    have hr13 := hok2_reached (p_exitOf P (p_callee P e)) (by omega) (by omega)
    refine r_callR (rest := [.int (iI (p_to P e)), .ref (o), .int (iI (bO (bI (bO ((u_reached U) (p_to P e)) (pCarry P e 0 (u_reached U (p_from P e))) ≠ (u_reached U) (p_to P e))) (bI (bO ((u_reached (uS1 P e U)) (p_entryOf P (p_callee P e))) (pCarry P e 1 ((u_reached (uS1 P e U)) (p_from P e))) ≠ (u_reached (uS1 P e U)) (p_entryOf P (p_callee P e))))))]) (r := .int (iI (pCarry P e 2 ((u_reached (uS2 P e U)) (p_exitOf P (p_callee P e)))))) C hl.1 (c_X0_carry l g po pa P e 2 ((u_reached (uS2 P e U)) (p_exitOf P (p_callee P e))) (show 0 ≤ e ∧ e < 32 by omega) (show 0 ≤ 2 ∧ 2 < 3 by omega) (show 0 ≤ ((u_reached (uS2 P e U)) (p_exitOf P (p_callee P e))) ∧ ((u_reached (uS2 P e U)) (p_exitOf P (p_callee P e))) < 256 by omega)) v_X1_44 rfl (hW.1.sub [2, 3, 4, 5, 6, 7, 8, 9, 10] rfl) 0 rfl rfl rfl (by decide) (by decide) (Nat.le_of_ble_eq_true rfl) dX1_stepAlong_97 rfl ?_
    have hcr := pCarry_r P e 2 (u_reached (uS2 P e U) (p_exitOf P (p_callee P e)))
    refine r_callW (rest := [.int (iI (bO (bI (bO ((u_reached U) (p_to P e)) (pCarry P e 0 (u_reached U (p_from P e))) ≠ (u_reached U) (p_to P e))) (bI (bO ((u_reached (uS1 P e U)) (p_entryOf P (p_callee P e))) (pCarry P e 1 ((u_reached (uS1 P e U)) (p_from P e))) ≠ (u_reached (uS1 P e U)) (p_entryOf P (p_callee P e))))))]) (r := some (.int (iI (bI (bO ((u_reached (uS2 P e U)) (p_to P e)) (pCarry P e 2 ((u_reached (uS2 P e U)) (p_exitOf P (p_callee P e)))) ≠ (u_reached (uS2 P e U)) (p_to P e)))))) (wr := pW g po pa P) (ws2 := uW g o ad (uS3 P e U) ++ pW g po pa P) (st1 := [.int (iI (bI (bO ((u_reached (uS2 P e U)) (p_to P e)) (pCarry P e 2 ((u_reached (uS2 P e U)) (p_exitOf P (p_callee P e)))) ≠ (u_reached (uS2 P e U)) (p_to P e)))), .int (iI (bO (bI (bO ((u_reached U) (p_to P e)) (pCarry P e 0 (u_reached U (p_from P e))) ≠ (u_reached U) (p_to P e))) (bI (bO ((u_reached (uS1 P e U)) (p_entryOf P (p_callee P e))) (pCarry P e 1 ((u_reached (uS1 P e U)) (p_from P e))) ≠ (u_reached (uS1 P e U)) (p_entryOf P (p_callee P e))))))]) C hl.1 hW hA (c_X1_addTo l g o ad (uS2 P e U) (p_to P e) (pCarry P e 2 ((u_reached (uS2 P e U)) (p_exitOf P (p_callee P e)))) (by assumption) (show 0 ≤ (p_to P e) ∧ (p_to P e) < 24 by omega) (show 0 ≤ (pCarry P e 2 ((u_reached (uS2 P e U)) (p_exitOf P (p_callee P e)))) ∧ (pCarry P e 2 ((u_reached (uS2 P e U)) (p_exitOf P (p_callee P e)))) < 256 by omega)) v_X1_48 rfl [0, 1] [2, 3, 4, 5, 6, 7, 8, 9, 10] [9, 10, 0, 1, 2, 3, 4, 5, 6, 7, 8] rfl rfl (by decide) (by decide) rfl rfl 0 rfl rfl rfl (by decide) (by decide) (Nat.le_of_ble_eq_true rfl) dX1_stepAlong_100 rfl rfl (fun H locs hW => ?_)
    have hb14 := bI_r (bO ((u_reached (uS2 P e U)) (p_to P e)) (pCarry P e 2 ((u_reached (uS2 P e U)) (p_exitOf P (p_callee P e)))) ≠ (u_reached (uS2 P e U)) (p_to P e))
    refine r_ior C (by omega) (by omega) dX1_stepAlong_103 ?_
    have hb15 := bO_0 (bO (bI (bO ((u_reached U) (p_to P e)) (pCarry P e 0 (u_reached U (p_from P e))) ≠ (u_reached U) (p_to P e))) (bI (bO ((u_reached (uS1 P e U)) (p_entryOf P (p_callee P e))) (pCarry P e 1 ((u_reached (uS1 P e U)) (p_from P e))) ≠ (u_reached (uS1 P e U)) (p_entryOf P (p_callee P e))))) (bI (bO ((u_reached (uS2 P e U)) (p_to P e)) (pCarry P e 2 ((u_reached (uS2 P e U)) (p_exitOf P (p_callee P e)))) ≠ (u_reached (uS2 P e U)) (p_to P e)))
    have hb16 : bO (bO (bI (bO ((u_reached U) (p_to P e)) (pCarry P e 0 (u_reached U (p_from P e))) ≠ (u_reached U) (p_to P e))) (bI (bO ((u_reached (uS1 P e U)) (p_entryOf P (p_callee P e))) (pCarry P e 1 ((u_reached (uS1 P e U)) (p_from P e))) ≠ (u_reached (uS1 P e U)) (p_entryOf P (p_callee P e))))) (bI (bO ((u_reached (uS2 P e U)) (p_to P e)) (pCarry P e 2 ((u_reached (uS2 P e U)) (p_exitOf P (p_callee P e)))) ≠ (u_reached (uS2 P e U)) (p_to P e))) < 256 := bO_8 (by omega) (by omega)
    refine r_istore C [(6, .int (iI (bO (bO (bI (bO ((u_reached U) (p_to P e)) (pCarry P e 0 (u_reached U (p_from P e))) ≠ (u_reached U) (p_to P e))) (bI (bO ((u_reached (uS1 P e U)) (p_entryOf P (p_callee P e))) (pCarry P e 1 ((u_reached (uS1 P e U)) (p_from P e))) ≠ (u_reached (uS1 P e U)) (p_entryOf P (p_callee P e))))) (bI (bO ((u_reached (uS2 P e U)) (p_to P e)) (pCarry P e 2 ((u_reached (uS2 P e U)) (p_exitOf P (p_callee P e)))) ≠ (u_reached (uS2 P e U)) (p_to P e)))))), (5, .int (iI (p_callee P e))), (4, .int (iI (p_to P e))), (3, .int (iI (p_from P e))), (0, .ref (o)), (1, .ref (po)), (2, .int (iI (e)))] dX1_stepAlong_104 hl (by decide) rfl (fun ls hl => ?_)
    refine r_iload C dX1_stepAlong_106 hl 0 rfl ?_
    have hE : uStep P e U = (bO (bO (bI (bO ((u_reached U) (p_to P e)) (pCarry P e 0 (u_reached U (p_from P e))) ≠ (u_reached U) (p_to P e))) (bI (bO ((u_reached (uS1 P e U)) (p_entryOf P (p_callee P e))) (pCarry P e 1 ((u_reached (uS1 P e U)) (p_from P e))) ≠ (u_reached (uS1 P e U)) (p_entryOf P (p_callee P e))))) (bI (bO ((u_reached (uS2 P e U)) (p_to P e)) (pCarry P e 2 ((u_reached (uS2 P e U)) (p_exitOf P (p_callee P e)))) ≠ (u_reached (uS2 P e U)) (p_to P e))), uS3 P e U) := if_neg hc5
    exact MW_zret (d := (uStep P e U).1 ≠ 0) C hAe hrt hlk hW dX1_stepAlong_108 ((show _ = (uStep P e U).1 by rw [hE]).trans (bI_ne (uStep_01 P e U))) rfl (by rw [hE])
set_option maxHeartbeats 4000000 in
set_option maxRecDepth 100000 in
theorem c_X1_fill (l : Launch) (g : GG) (o : Nat) (ad : Nat → Nat) (U : Sp) (po : Nat) (pa : Nat → Nat) (P : Pg) (hU : uOk U) (hP : pOk P) : MW l g yX1_fill cX1_fill 5 none 3 74 [.ref (o), .ref (po)] (uW g o ad U ++ pW g po pa P) (uW g o ad (uFill P U) ++ pW g po pa P) none := by
  refine MW_start (by decide) (Nat.le_of_ble_eq_true rfl) ?_
  intro zp ze zs zm zb zt zc A hAe C hrt hlk hW ls hl
  have hA : ∀ q, zs.heap.size ≤ q → A q := fun q h => by rw [hAe]; exact Or.inr h
  have hl : lv_has ls 5 [(0, .ref (o)), (1, .ref (po))] := hl
  obtain ⟨hU_ready, hU_reached⟩ := id hU
  obtain ⟨hP_procs, hP_nodes, hP_edges, hP_start, hP_entryOf, hP_exitOf, hP_procOf, hP_kindOf, hP_from, hP_to, hP_callee⟩ := id hP
  refine r_aload_n C dX1_fill_0 hl 0 rfl ?_
  refine r_get (v := .int (iI (u_ready U))) C f_X1_9 hW.1 0 rfl rfl dX1_fill_1 ?_
  refine r_if_eq C 8 dX1_fill_4 (by decide) (by omega) (fun hc1 => ?_) (fun hc1 => ?_)
  · skip
    refine r_aload_n C dX1_fill_8 hl 0 rfl ?_
    refine r_iconst (z := 1) C dX1_fill_9 rfl ?_
    refine r_put C f_X1_9 fp_1_0 hW (uW g o ad (us_ready U 1) ++ pW g po pa P) 0 rfl (by decide) (by decide) (Nat.le_of_ble_eq_true rfl) rfl dX1_fill_10 (fun H locs hW => ?_)
    refine r_iconst (z := 0) C dX1_fill_13 rfl ?_
    refine r_istore_n C [(2, .int (iI (0))), (0, .ref (o)), (1, .ref (po))] dX1_fill_14 hl (by decide) rfl (fun ls hl => ?_)
    have hloop15 : ∀ (k15 : Nat) (i : Int) (X : Sp) (hkk : i + k15 = 24) (hi : 0 ≤ i) (hq0 : uClr U = it (fun i U => us_reached U (up (u_reached U) i 0)) k15 i X) (H : Heap) (locs : List Loc) (ls : Array Slot), HW g A zs.heap (uW g o ad X ++ pW g po pa P) H locs → lv_has ls 5 [(0, .ref (o)), (1, .ref (po)), (2, .int (iI (i)))] → W zp l ze (rmm 3 74) zs zm (List.toArray [.ref (o), .ref (po)]) zb zt zc H locs 0 0 (MQ zb (QW g (uW g o ad U ++ pW g po pa P) (uW g o ad (uFill P U) ++ pW g po pa P) zs.heap.size none) (List.toArray [.ref (o), .ref (po)]) zs 0 0 A) (F0 zm 15 ls []) := by
      intro k15
      induction k15 with
      | zero =>
        intro i X hkk hi hq0 H locs ls hW hl
        refine r_iload_n C dX1_fill_15 hl 2 rfl ?_
        refine r_bipush (z := 24) C dX1_fill_16 rfl ?_
        refine r_icmp_ge C 34 dX1_fill_18 (by decide) (by omega) (by omega) (fun hc2 => ?_) (fun hc2 => ?_)
        · skip
          refine r_aload_n C dX1_fill_34 hl 0 rfl ?_
          refine r_get (v := .ref (ad 0)) C f_X1_15 hW.1 0 rfl rfl dX1_fill_35 ?_
          refine r_aload_n C dX1_fill_38 hl 1 rfl ?_
          refine r_get (v := .ref (pa 0)) C f_X1_19 hW.1 2 rfl rfl dX1_fill_39 ?_
          refine r_iconst (z := 0) C dX1_fill_42 rfl ?_
          refine r_iald (f := p_entryOf P) C hW.1 3 rfl (Nat.le_of_ble_eq_true rfl) (by omega) dX1_fill_43 ?_
          have hr3 := hP_entryOf 0 (by omega) (by omega)
          refine r_aload_n C dX1_fill_44 hl 1 rfl ?_
          refine r_get (v := .int (iI (p_start P))) C f_X1_24 hW.1 2 rfl rfl dX1_fill_45 ?_
          refine r_iast (f := u_reached X) C hW (uW g o ad (us_reached X (up (u_reached X) (p_entryOf P 0) (p_start P))) ++ pW g po pa P) 1 rfl (Nat.le_of_ble_eq_true rfl) (by omega) rfl dX1_fill_48 (fun H locs hW => ?_)
          refine r_iconst (z := 1) C dX1_fill_49 rfl ?_
          refine r_istore_n C [(2, .int (iI (1))), (0, .ref (o)), (1, .ref (po))] dX1_fill_50 hl (by decide) rfl (fun ls hl => ?_)
          refine r_iconst (z := 0) C dX1_fill_51 rfl ?_
          refine r_istore_n C [(3, .int (iI (0))), (2, .int (iI (1))), (0, .ref (o)), (1, .ref (po))] dX1_fill_52 hl (by decide) rfl (fun ls hl => ?_)
          have hloop53 : ∀ (k53 : Nat) (gr rd : Int) (Y : Sp) (hkk1 : rd + k53 = 193) (hrd : 0 ≤ rd) (hgr : gr = 0 ∨ gr = 1) (hYo : uOk Y) (hq2 : uFill P U = uIter P k53 gr Y) (H : Heap) (locs : List Loc) (ls : Array Slot), HW g A zs.heap (uW g o ad Y ++ pW g po pa P) H locs → lv_has ls 5 [(0, .ref (o)), (1, .ref (po)), (2, .int (iI (gr))), (3, .int (iI (rd)))] → W zp l ze (rmm 3 74) zs zm (List.toArray [.ref (o), .ref (po)]) zb zt zc H locs 0 0 (MQ zb (QW g (uW g o ad U ++ pW g po pa P) (uW g o ad (uFill P U) ++ pW g po pa P) zs.heap.size none) (List.toArray [.ref (o), .ref (po)]) zs 0 0 A) (F0 zm 53 ls []) := by
            intro k53
            induction k53 with
            | zero =>
              intro gr rd Y hkk1 hrd hgr hYo hq2 H locs ls hW hl
              obtain ⟨hYo_ready, hYo_reached⟩ := id hYo
              refine r_iload_n C dX1_fill_53 hl 2 rfl ?_
              refine r_if_eq C 100 dX1_fill_54 (by decide) (by omega) (fun hc4 => ?_) (fun hc4 => ?_)
              · skip
                have hE : uFill P U = Y := by rw [hq2]; first | rfl | (unfold uIter; exact if_pos (by omega))
                exact MW_vret C hAe hrt hlk hW dX1_fill_100 rfl (by rw [hE])
              · skip
                refine r_iload_n C dX1_fill_57 hl 3 rfl ?_
                refine r_sipush (z := 192) C dX1_fill_58 rfl ?_
                refine r_icmp_gt C 100 dX1_fill_61 (by decide) (by omega) (by omega) (fun hc5 => ?_) (fun hc5 => ?_)
                · skip
                  have hE : uFill P U = Y := by rw [hq2]; first | rfl | (unfold uIter; exact if_pos (by omega))
                  exact MW_vret C hAe hrt hlk hW dX1_fill_100 rfl (by rw [hE])
                · exact absurd hc5 (by omega)
            | succ k53 ih53 =>
              intro gr rd Y hkk1 hrd hgr hYo hq2 H locs ls hW hl
              obtain ⟨hYo_ready, hYo_reached⟩ := id hYo
              refine r_iload_n C dX1_fill_53 hl 2 rfl ?_
              refine r_if_eq C 100 dX1_fill_54 (by decide) (by omega) (fun hc6 => ?_) (fun hc6 => ?_)
              · skip
                have hE : uFill P U = Y := by rw [hq2]; first | rfl | (unfold uIter; exact if_pos (by omega))
                exact MW_vret C hAe hrt hlk hW dX1_fill_100 rfl (by rw [hE])
              · skip
                refine r_iload_n C dX1_fill_57 hl 3 rfl ?_
                refine r_sipush (z := 192) C dX1_fill_58 rfl ?_
                refine r_icmp_gt C 100 dX1_fill_61 (by decide) (by omega) (by omega) (fun hc7 => ?_) (fun hc7 => ?_)
                · exact absurd hc7 (by omega)
                · skip
                  refine r_iconst (z := 0) C dX1_fill_64 rfl ?_
                  refine r_istore_n C [(2, .int (iI (0))), (0, .ref (o)), (1, .ref (po)), (3, .int (iI (rd)))] dX1_fill_65 hl (by decide) rfl (fun ls hl => ?_)
                  refine r_iconst (z := 0) C dX1_fill_66 rfl ?_
                  refine r_istore C [(4, .int (iI (0))), (2, .int (iI (0))), (0, .ref (o)), (1, .ref (po)), (3, .int (iI (rd)))] dX1_fill_67 hl (by decide) rfl (fun ls hl => ?_)
                  have hloop69 : ∀ (k69 : Nat) (e gs : Int) (Z : Sp) (hkk2 : e + k69 = p_edges P) (he : 0 ≤ e) (hgs : gs = 0 ∨ gs = 1) (hZo : uOk Z) (hq3 : it (uSF P) (p_edges P).toNat 0 (0, Y) = it (uSF P) k69 e (gs, Z)) (H : Heap) (locs : List Loc) (ls : Array Slot), HW g A zs.heap (uW g o ad Z ++ pW g po pa P) H locs → lv_has ls 5 [(0, .ref (o)), (1, .ref (po)), (2, .int (iI (gs))), (3, .int (iI (rd))), (4, .int (iI (e)))] → W zp l ze (rmm 3 74) zs zm (List.toArray [.ref (o), .ref (po)]) zb zt zc H locs 0 0 (MQ zb (QW g (uW g o ad U ++ pW g po pa P) (uW g o ad (uFill P U) ++ pW g po pa P) zs.heap.size none) (List.toArray [.ref (o), .ref (po)]) zs 0 0 A) (F0 zm 69 ls []) := by
                    intro k69
                    induction k69 with
                    | zero =>
                      intro e gs Z hkk2 he hgs hZo hq3 H locs ls hW hl
                      obtain ⟨hZo_ready, hZo_reached⟩ := id hZo
                      refine r_iload C dX1_fill_69 hl 4 rfl ?_
                      refine r_aload_n C dX1_fill_71 hl 1 rfl ?_
                      refine r_get (v := .int (iI (p_edges P))) C f_X1_28 hW.1 2 rfl rfl dX1_fill_72 ?_
                      refine r_icmp_ge C 94 dX1_fill_75 (by decide) (by omega) (by omega) (fun hc8 => ?_) (fun hc8 => ?_)
                      · skip
                        refine r_iinc (v := rd + 1) C [(3, .int (iI (rd + 1))), (0, .ref (o)), (1, .ref (po)), (2, .int (iI (gs))), (4, .int (iI (e)))] dX1_fill_94 hl 3 rfl (by decide) (by omega) rfl (fun ls hl => ?_)
                        refine r_goto C 53 dX1_fill_97 (by decide) ?_
                        have hRe : it (uSF P) (p_edges P).toNat 0 (0, Y) = (gs, Z) := hq3
                        exact ih53 gs (rd + 1) Z (by omega) (by omega) (by assumption) (by assumption) (by rw [hq2]; show (if gr = 0 then _ else _) = _; rw [hRe]; exact if_neg (by omega)) _ _ ls hW (lv_sub hl [1, 2, 3, 0] rfl)
                      · exact absurd hc8 (by omega)
                    | succ k69 ih69 =>
                      intro e gs Z hkk2 he hgs hZo hq3 H locs ls hW hl
                      obtain ⟨hZo_ready, hZo_reached⟩ := id hZo
                      refine r_iload C dX1_fill_69 hl 4 rfl ?_
                      refine r_aload_n C dX1_fill_71 hl 1 rfl ?_
                      refine r_get (v := .int (iI (p_edges P))) C f_X1_28 hW.1 2 rfl rfl dX1_fill_72 ?_
                      refine r_icmp_ge C 94 dX1_fill_75 (by decide) (by omega) (by omega) (fun hc9 => ?_) (fun hc9 => ?_)
                      · exact absurd hc9 (by omega)
                      · skip
                        refine r_iload_n C dX1_fill_78 hl 2 rfl ?_
                        refine r_aload_n C dX1_fill_79 hl 0 rfl ?_
                        refine r_aload_n C dX1_fill_80 hl 1 rfl ?_
                        refine r_iload C dX1_fill_81 hl 4 rfl ?_
                        refine r_callW (rest := [.int (iI (gs))]) (r := some (.int (iI (bI ((uStep P e Z).1 ≠ 0))))) (wr := []) (ws2 := uW g o ad ((uStep P e Z).2) ++ pW g po pa P) (st1 := [.int (iI (bI ((uStep P e Z).1 ≠ 0))), .int (iI (gs))]) C hl.1 hW hA (c_X1_stepAlong l g o ad Z po pa P e (by assumption) (by assumption) (show 0 ≤ e ∧ e < 32 by omega)) v_X1_31 rfl [0, 1, 2, 3, 4, 5, 6, 7, 8, 9, 10] [] [0, 1, 2, 3, 4, 5, 6, 7, 8, 9, 10] rfl rfl (by decide) (by decide) rfl rfl 0 rfl rfl rfl (by decide) (by decide) (Nat.le_of_ble_eq_true rfl) dX1_fill_83 rfl rfl (fun H locs hW => ?_)
                        have hok10 : uOk ((uStep P e Z).2) := uStep_ok (by assumption) (by assumption) (by omega)
                        have hb11 := bI_r ((uStep P e Z).1 ≠ 0)
                        refine r_ior C (by omega) (by omega) dX1_fill_86 ?_
                        have hb12 := bO_0 gs (bI ((uStep P e Z).1 ≠ 0))
                        have hb13 : bO gs (bI ((uStep P e Z).1 ≠ 0)) < 256 := bO_8 (by omega) (by omega)
                        refine r_istore_n C [(2, .int (iI (bO gs (bI ((uStep P e Z).1 ≠ 0))))), (0, .ref (o)), (1, .ref (po)), (3, .int (iI (rd))), (4, .int (iI (e)))] dX1_fill_87 hl (by decide) rfl (fun ls hl => ?_)
                        refine r_iinc (v := e + 1) C [(4, .int (iI (e + 1))), (2, .int (iI (bO gs (bI ((uStep P e Z).1 ≠ 0))))), (0, .ref (o)), (1, .ref (po)), (3, .int (iI (rd)))] dX1_fill_88 hl 4 rfl (by decide) (by omega) rfl (fun ls hl => ?_)
                        refine r_goto C 69 dX1_fill_91 (by decide) ?_
                        exact ih69 (e + 1) _ _ (by omega) (by omega) (bO_01 (by assumption) (bI_r _)) (by assumption) (by rw [hq3, it_s]; rfl) _ _ ls hW (lv_sub hl [2, 3, 1, 4, 0] rfl)
                  exact hloop69 (p_edges P).toNat 0 0 _ (by omega) (by omega) (by omega) (by assumption) rfl _ _ ls hW (lv_sub hl [2, 3, 1, 4, 0] rfl)
          have hX0 : uClr U = X := hq0
          have hXo : uOk X := by rw [← hX0]; exact uClr_ok hU
          exact hloop53 193 1 0 (us_reached X (up (u_reached X) (p_entryOf P 0) (p_start P))) (by omega) (by omega) (by omega) ⟨hXo.1, up_rng hXo.2 _ (by omega)⟩ (by rw [← hX0]; exact if_neg (by omega)) _ _ ls hW (lv_sub hl [2, 3, 1, 0] rfl)
        · exact absurd hc2 (by omega)
      | succ k15 ih15 =>
        intro i X hkk hi hq0 H locs ls hW hl
        refine r_iload_n C dX1_fill_15 hl 2 rfl ?_
        refine r_bipush (z := 24) C dX1_fill_16 rfl ?_
        refine r_icmp_ge C 34 dX1_fill_18 (by decide) (by omega) (by omega) (fun hc14 => ?_) (fun hc14 => ?_)
        · exact absurd hc14 (by omega)
        · skip
          refine r_aload_n C dX1_fill_21 hl 0 rfl ?_
          refine r_get (v := .ref (ad 0)) C f_X1_15 hW.1 0 rfl rfl dX1_fill_22 ?_
          refine r_iload_n C dX1_fill_25 hl 2 rfl ?_
          refine r_iconst (z := 0) C dX1_fill_26 rfl ?_
          refine r_iast (f := u_reached X) C hW (uW g o ad (us_reached X (up (u_reached X) i 0)) ++ pW g po pa P) 1 rfl (Nat.le_of_ble_eq_true rfl) (by omega) rfl dX1_fill_27 (fun H locs hW => ?_)
          refine r_iinc (v := i + 1) C [(2, .int (iI (i + 1))), (0, .ref (o)), (1, .ref (po))] dX1_fill_28 hl 2 rfl (by decide) (by omega) rfl (fun ls hl => ?_)
          refine r_goto C 15 dX1_fill_31 (by decide) ?_
          exact ih15 _ _ (by omega) (by omega) (by rw [hq0, it_s]) _ _ ls hW (lv_sub hl [1, 2, 0] rfl)
    exact hloop15 24 0 _ (by omega) (by omega) rfl _ _ ls hW (lv_sub hl [1, 2, 0] rfl)
  · skip
    have hE : uFill P U = U := if_pos (by omega)
    exact MW_vret C hAe hrt hlk hW dX1_fill_7 rfl (by rw [hE])
set_option maxHeartbeats 4000000 in
set_option maxRecDepth 100000 in
theorem c_X3_append (l : Launch) (g : GG) (o : Nat) (ad : Nat → Nat) (X : Tx) (c : Int) (hX : xOk X) : MW l g yX3_append cX3_append 2 (some .boolean) 0 0 [.ref (o), .int (iI (c))] (xW g o ad X) (xW g o ad (xApp c X)) (some (.int (iI (bI (x_length X < 120))))) := by
  refine MW_start (by decide) (Nat.le_of_ble_eq_true rfl) ?_
  intro zp ze zs zm zb zt zc A hAe C hrt hlk hW ls hl
  have hA : ∀ q, zs.heap.size ≤ q → A q := fun q h => by rw [hAe]; exact Or.inr h
  have hl : lv_has ls 2 [(0, .ref (o)), (1, .int (iI (c)))] := hl
  obtain ⟨hX_length, hX_orders, hX_bytes, hX_parts, hX_place⟩ := id hX
  refine r_aload_n C dX3_append_0 hl 0 rfl ?_
  refine r_get (v := .int (iI (x_length X))) C f_X3_9 hW.1 0 rfl rfl dX3_append_1 ?_
  refine r_bipush (z := 120) C dX3_append_4 rfl ?_
  refine r_icmp_lt C 11 dX3_append_6 (by decide) (by omega) (by omega) (fun hc1 => ?_) (fun hc1 => ?_)
  · skip
    refine r_aload_n C dX3_append_11 hl 0 rfl ?_
    refine r_get (v := .ref (ad 0)) C f_X3_18 hW.1 0 rfl rfl dX3_append_12 ?_
    refine r_aload_n C dX3_append_15 hl 0 rfl ?_
    refine r_get (v := .int (iI (x_length X))) C f_X3_9 hW.1 0 rfl rfl dX3_append_16 ?_
    refine r_iload_n C dX3_append_19 hl 1 rfl ?_
    refine r_iast (f := x_bytes X) C hW (xW g o ad (xs_bytes X (up (x_bytes X) (x_length X) c))) 1 rfl (Nat.le_of_ble_eq_true rfl) (by omega) rfl dX3_append_20 (fun H locs hW => ?_)
    refine r_aload_n C dX3_append_21 hl 0 rfl ?_
    refine r_dup C rfl dX3_append_22 ?_
    refine r_get (v := .int (iI (x_length X))) C f_X3_9 hW.1 0 rfl rfl dX3_append_23 ?_
    refine r_iconst (z := 1) C dX3_append_26 rfl ?_
    refine r_iadd C dX3_append_27 ?_
    refine r_put C f_X3_9 fp_3_0 hW (xW g o ad (xs_length (xs_bytes X (up (x_bytes X) (x_length X) c)) ((x_length X) + 1))) 0 rfl rfl rfl (Nat.le_of_ble_eq_true rfl) rfl dX3_append_28 (fun H locs hW => ?_)
    refine r_iconst (z := 1) C dX3_append_31 rfl ?_
    exact MW_zret (d := x_length X < 120) C hAe hrt hlk hW dX3_append_32 (bI_t (by first | assumption | omega)).symm rfl (by unfold xApp; split <;> first | rfl | (exfalso; omega))
  · skip
    refine r_iconst (z := 0) C dX3_append_9 rfl ?_
    exact MW_zret (d := x_length X < 120) C hAe hrt hlk hW dX3_append_10 (bI_f (by first | assumption | omega)).symm rfl (by unfold xApp; split <;> first | rfl | (exfalso; omega))
set_option maxHeartbeats 4000000 in
set_option maxRecDepth 100000 in
theorem c_X3_part (l : Launch) (g : GG) (o : Nat) (ad : Nat → Nat) (X : Tx) (d w : Int) (hX : xOk X) (hd : 0 ≤ d ∧ d < 60) (hw : 0 ≤ w ∧ w < 5) : MR l g yX3_part cX3_part 3 (some .int) 0 0 [.ref (o), .int (iI (d)), .int (iI (w))] (xW g o ad X) (.int (iI (x_parts X (d * 5 + w)))) := by
  refine MR_start (by decide) (Nat.le_of_ble_eq_true rfl) ?_
  intro zp ze zs zm zb zt zc C hrt hlk hH ls hl
  have hl : lv_has ls 3 [(0, .ref (o)), (1, .int (iI (d))), (2, .int (iI (w)))] := hl
  obtain ⟨hX_length, hX_orders, hX_bytes, hX_parts, hX_place⟩ := id hX
  refine r_aload_n C dX3_part_0 hl 0 rfl ?_
  refine r_get (v := .ref (ad 1)) C f_X3_22 hH 0 rfl rfl dX3_part_1 ?_
  refine r_iload_n C dX3_part_4 hl 1 rfl ?_
  refine r_iconst (z := 5) C dX3_part_5 rfl ?_
  refine r_imul C dX3_part_6 ?_
  refine r_iload_n C dX3_part_7 hl 2 rfl ?_
  refine r_iadd C dX3_part_8 ?_
  refine r_iald (f := x_parts X) C hH 2 rfl (Nat.le_of_ble_eq_true rfl) (by omega) dX3_part_9 ?_
  have hr1 := hX_parts ((d * 5) + w) (by omega) (by omega)
  exact MR_iret C hrt hlk dX3_part_10 (iv rfl)
set_option maxHeartbeats 4000000 in
set_option maxRecDepth 100000 in
theorem c_X3_isFigure (l : Launch) (g : GG) (o : Nat) (ad : Nat → Nat) (X : Tx) (hX : xOk X) : MR l g yX3_isFigure cX3_isFigure 1 (some .boolean) 0 0 [.ref (o)] (xW g o ad X) (.int (iI (bI (isFig (x_length X) (x_bytes X) (x_place X))))) := by
  refine MR_start (by decide) (Nat.le_of_ble_eq_true rfl) ?_
  intro zp ze zs zm zb zt zc C hrt hlk hH ls hl
  have hl : lv_has ls 1 [(0, .ref (o))] := hl
  obtain ⟨hX_length, hX_orders, hX_bytes, hX_parts, hX_place⟩ := id hX
  refine r_aload_n C dX3_isFigure_0 hl 0 rfl ?_
  refine r_get (v := .int (iI (x_place X))) C f_X3_25 hH 0 rfl rfl dX3_isFigure_1 ?_
  refine r_aload_n C dX3_isFigure_4 hl 0 rfl ?_
  refine r_get (v := .int (iI (x_length X))) C f_X3_9 hH 0 rfl rfl dX3_isFigure_5 ?_
  refine r_icmp_ge C 43 dX3_isFigure_8 (by decide) (by omega) (by omega) (fun hc1 => ?_) (fun hc1 => ?_)
  · skip
    refine r_iconst (z := 0) C dX3_isFigure_43 rfl ?_
    exact MR_zret (d := isFig (x_length X) (x_bytes X) (x_place X)) C hrt hlk dX3_isFigure_44 (bI_f (show ¬ (x_place X < x_length X ∧ 48 ≤ x_bytes X (x_place X) ∧ x_bytes X (x_place X) ≤ 57) by omega)).symm rfl
  · skip
    refine r_aload_n C dX3_isFigure_11 hl 0 rfl ?_
    refine r_get (v := .ref (ad 0)) C f_X3_18 hH 0 rfl rfl dX3_isFigure_12 ?_
    refine r_aload_n C dX3_isFigure_15 hl 0 rfl ?_
    refine r_get (v := .int (iI (x_place X))) C f_X3_25 hH 0 rfl rfl dX3_isFigure_16 ?_
    refine r_iald (f := x_bytes X) C hH 1 rfl (Nat.le_of_ble_eq_true rfl) (by omega) dX3_isFigure_19 ?_
    have hr2 := hX_bytes (x_place X) (by omega) (by omega)
    refine r_bipush (z := 48) C dX3_isFigure_20 rfl ?_
    refine r_icmp_lt C 43 dX3_isFigure_22 (by decide) (by omega) (by omega) (fun hc3 => ?_) (fun hc3 => ?_)
    · skip
      refine r_iconst (z := 0) C dX3_isFigure_43 rfl ?_
      exact MR_zret (d := isFig (x_length X) (x_bytes X) (x_place X)) C hrt hlk dX3_isFigure_44 (bI_f (show ¬ (x_place X < x_length X ∧ 48 ≤ x_bytes X (x_place X) ∧ x_bytes X (x_place X) ≤ 57) by omega)).symm rfl
    · skip
      refine r_aload_n C dX3_isFigure_25 hl 0 rfl ?_
      refine r_get (v := .ref (ad 0)) C f_X3_18 hH 0 rfl rfl dX3_isFigure_26 ?_
      refine r_aload_n C dX3_isFigure_29 hl 0 rfl ?_
      refine r_get (v := .int (iI (x_place X))) C f_X3_25 hH 0 rfl rfl dX3_isFigure_30 ?_
      refine r_iald (f := x_bytes X) C hH 1 rfl (Nat.le_of_ble_eq_true rfl) (by omega) dX3_isFigure_33 ?_
      have hr4 := hX_bytes (x_place X) (by omega) (by omega)
      refine r_bipush (z := 57) C dX3_isFigure_34 rfl ?_
      refine r_icmp_gt C 43 dX3_isFigure_36 (by decide) (by omega) (by omega) (fun hc5 => ?_) (fun hc5 => ?_)
      · skip
        refine r_iconst (z := 0) C dX3_isFigure_43 rfl ?_
        exact MR_zret (d := isFig (x_length X) (x_bytes X) (x_place X)) C hrt hlk dX3_isFigure_44 (bI_f (show ¬ (x_place X < x_length X ∧ 48 ≤ x_bytes X (x_place X) ∧ x_bytes X (x_place X) ≤ 57) by omega)).symm rfl
      · skip
        refine r_iconst (z := 1) C dX3_isFigure_39 rfl ?_
        refine r_goto C 44 dX3_isFigure_40 (by decide) ?_
        exact MR_zret (d := isFig (x_length X) (x_bytes X) (x_place X)) C hrt hlk dX3_isFigure_44 (bI_t (show x_place X < x_length X ∧ 48 ≤ x_bytes X (x_place X) ∧ x_bytes X (x_place X) ≤ 57 by omega)).symm rfl
set_option maxHeartbeats 4000000 in
set_option maxRecDepth 100000 in
theorem c_X3_numbersBehind (l : Launch) (g : GG) (c : Int) (hc : rg c) : MR l g yX3_numbersBehind cX3_numbersBehind 1 (some .int) 0 0 [.int (iI (c))] ([]) (.int (iI (xBehind c))) := by
  refine MR_start (by decide) (Nat.le_of_ble_eq_true rfl) ?_
  intro zp ze zs zm zb zt zc C hrt hlk hH ls hl
  have hl : lv_has ls 1 [(0, .int (iI (c)))] := hl
  refine r_iload_n C dX3_numbersBehind_0 hl 0 rfl ?_
  by_cases hc2 : c = 99
  · refine r_tableIn C 110 dX3_numbersBehind_1 (by omega) (by omega) (show _ = some (109 : Int) by rw [hc2]; rfl) (by decide) ?_
    refine r_iconst (z := 3) C dX3_numbersBehind_110 rfl ?_
    exact MR_iret C hrt hlk dX3_numbersBehind_111 (iv (by unfold xBehind; (repeat' split) <;> omega))
  by_cases hc3 : c = 101
  · refine r_tableIn C 108 dX3_numbersBehind_1 (by omega) (by omega) (show _ = some (107 : Int) by rw [hc3]; rfl) (by decide) ?_
    refine r_iconst (z := 2) C dX3_numbersBehind_108 rfl ?_
    exact MR_iret C hrt hlk dX3_numbersBehind_109 (iv (by unfold xBehind; (repeat' split) <;> omega))
  by_cases hc4 : c = 102
  · refine r_tableIn C 112 dX3_numbersBehind_1 (by omega) (by omega) (show _ = some (111 : Int) by rw [hc4]; rfl) (by decide) ?_
    refine r_iconst (z := 4) C dX3_numbersBehind_112 rfl ?_
    exact MR_iret C hrt hlk dX3_numbersBehind_113 (iv (by unfold xBehind; (repeat' split) <;> omega))
  by_cases hc5 : c = 110
  · refine r_tableIn C 106 dX3_numbersBehind_1 (by omega) (by omega) (show _ = some (105 : Int) by rw [hc5]; rfl) (by decide) ?_
    refine r_iconst (z := 1) C dX3_numbersBehind_106 rfl ?_
    exact MR_iret C hrt hlk dX3_numbersBehind_107 (iv (by unfold xBehind; (repeat' split) <;> omega))
  by_cases hc6 : c = 112
  · refine r_tableIn C 104 dX3_numbersBehind_1 (by omega) (by omega) (show _ = some (103 : Int) by rw [hc6]; rfl) (by decide) ?_
    refine r_iconst (z := 0) C dX3_numbersBehind_104 rfl ?_
    exact MR_iret C hrt hlk dX3_numbersBehind_105 (iv (by unfold xBehind; (repeat' split) <;> omega))
  by_cases hc7 : c = 115
  · refine r_tableIn C 106 dX3_numbersBehind_1 (by omega) (by omega) (show _ = some (105 : Int) by rw [hc7]; rfl) (by decide) ?_
    refine r_iconst (z := 1) C dX3_numbersBehind_106 rfl ?_
    exact MR_iret C hrt hlk dX3_numbersBehind_107 (iv (by unfold xBehind; (repeat' split) <;> omega))
  by_cases hc8 : c = 120
  · refine r_tableIn C 106 dX3_numbersBehind_1 (by omega) (by omega) (show _ = some (105 : Int) by rw [hc8]; rfl) (by decide) ?_
    refine r_iconst (z := 1) C dX3_numbersBehind_106 rfl ?_
    exact MR_iret C hrt hlk dX3_numbersBehind_107 (iv (by unfold xBehind; (repeat' split) <;> omega))
  have hc1 : c < 99 ∨ 120 < c ∨ (99 ≤ c ∧ c ≤ 120) := by omega
  refine r_tableD C 114 dX3_numbersBehind_1 (by omega) (by decide) (fun hlo hhi => ?_) ?_
  · have : c = 100 ∨ c = 103 ∨ c = 104 ∨ c = 105 ∨ c = 106 ∨ c = 107 ∨ c = 108 ∨ c = 109 ∨ c = 111 ∨ c = 113 ∨ c = 114 ∨ c = 116 ∨ c = 117 ∨ c = 118 ∨ c = 119 := by omega
    rcases this with hz | hz | hz | hz | hz | hz | hz | hz | hz | hz | hz | hz | hz | hz | hz <;> (rw [hz]; rfl)
  refine r_iconst (z := -1) C dX3_numbersBehind_114 rfl ?_
  exact MR_iret C hrt hlk dX3_numbersBehind_115 (iv (by unfold xBehind; (repeat' split) <;> omega))
set_option maxHeartbeats 4000000 in
set_option maxRecDepth 100000 in
theorem c_X3_skipBlanks (l : Launch) (g : GG) (o : Nat) (ad : Nat → Nat) (X : Tx) (hX : xOk X) (hpl : x_place X ≤ x_length X) : MW l g yX3_skipBlanks cX3_skipBlanks 1 none 0 0 [.ref (o)] (xW g o ad X) (xW g o ad (xSkip X)) none := by
  refine MW_start (by decide) (Nat.le_of_ble_eq_true rfl) ?_
  intro zp ze zs zm zb zt zc A hAe C hrt hlk hW ls hl
  have hA : ∀ q, zs.heap.size ≤ q → A q := fun q h => by rw [hAe]; exact Or.inr h
  have hl : lv_has ls 1 [(0, .ref (o))] := hl
  obtain ⟨hX_length, hX_orders, hX_bytes, hX_parts, hX_place⟩ := id hX
  have hloop0 : ∀ (k0 : Nat) (q : Int) (hkk : q + k0 = x_length X) (hq0 : 0 ≤ q) (hq : skB (x_length X) (x_bytes X) (x_length X - x_place X).toNat (x_place X) = skB (x_length X) (x_bytes X) k0 q) (H : Heap) (locs : List Loc) (ls : Array Slot), HW g A zs.heap (xW g o ad (xs_place X q)) H locs → lv_has ls 1 [(0, .ref (o))] → W zp l ze (rmm 0 0) zs zm (List.toArray [.ref (o)]) zb zt zc H locs 0 0 (MQ zb (QW g (xW g o ad X) (xW g o ad (xSkip X)) zs.heap.size none) (List.toArray [.ref (o)]) zs 0 0 A) (F0 zm 0 ls []) := by
    intro k0
    induction k0 with
    | zero =>
      intro q hkk hq0 hq H locs ls hW hl
      refine r_aload_n C dX3_skipBlanks_0 hl 0 rfl ?_
      refine r_get (v := .int (iI (q))) C f_X3_25 hW.1 0 rfl rfl dX3_skipBlanks_1 ?_
      refine r_aload_n C dX3_skipBlanks_4 hl 0 rfl ?_
      refine r_get (v := .int (iI (x_length X))) C f_X3_9 hW.1 0 rfl rfl dX3_skipBlanks_5 ?_
      refine r_icmp_ge C 38 dX3_skipBlanks_8 (by decide) (by omega) (by omega) (fun hc1 => ?_) (fun hc1 => ?_)
      · skip
        have hE : xSkip X = xs_place X q := by unfold xSkip skT; rw [hq]; first | rfl | (unfold skB; rw [if_neg (by omega)])
        exact MW_vret C hAe hrt hlk hW dX3_skipBlanks_38 rfl (by rw [hE])
      · exact absurd hc1 (by omega)
    | succ k0 ih0 =>
      intro q hkk hq0 hq H locs ls hW hl
      refine r_aload_n C dX3_skipBlanks_0 hl 0 rfl ?_
      refine r_get (v := .int (iI (q))) C f_X3_25 hW.1 0 rfl rfl dX3_skipBlanks_1 ?_
      refine r_aload_n C dX3_skipBlanks_4 hl 0 rfl ?_
      refine r_get (v := .int (iI (x_length X))) C f_X3_9 hW.1 0 rfl rfl dX3_skipBlanks_5 ?_
      refine r_icmp_ge C 38 dX3_skipBlanks_8 (by decide) (by omega) (by omega) (fun hc2 => ?_) (fun hc2 => ?_)
      · exact absurd hc2 (by omega)
      · skip
        refine r_aload_n C dX3_skipBlanks_11 hl 0 rfl ?_
        refine r_get (v := .ref (ad 0)) C f_X3_18 hW.1 0 rfl rfl dX3_skipBlanks_12 ?_
        refine r_aload_n C dX3_skipBlanks_15 hl 0 rfl ?_
        refine r_get (v := .int (iI (q))) C f_X3_25 hW.1 0 rfl rfl dX3_skipBlanks_16 ?_
        refine r_iald (f := x_bytes X) C hW.1 1 rfl (Nat.le_of_ble_eq_true rfl) (by omega) dX3_skipBlanks_19 ?_
        have hr3 := hX_bytes q (by omega) (by omega)
        refine r_bipush (z := 32) C dX3_skipBlanks_20 rfl ?_
        refine r_icmp_ne C 38 dX3_skipBlanks_22 (by decide) (by omega) (by omega) (fun hc4 => ?_) (fun hc4 => ?_)
        · skip
          have hE : xSkip X = xs_place X q := by unfold xSkip skT; rw [hq]; first | rfl | (unfold skB; rw [if_neg (by omega)])
          exact MW_vret C hAe hrt hlk hW dX3_skipBlanks_38 rfl (by rw [hE])
        · skip
          refine r_aload_n C dX3_skipBlanks_25 hl 0 rfl ?_
          refine r_dup C rfl dX3_skipBlanks_26 ?_
          refine r_get (v := .int (iI (q))) C f_X3_25 hW.1 0 rfl rfl dX3_skipBlanks_27 ?_
          refine r_iconst (z := 1) C dX3_skipBlanks_30 rfl ?_
          refine r_iadd C dX3_skipBlanks_31 ?_
          refine r_put C f_X3_25 fp_3_4 hW (xW g o ad (xs_place (xs_place X q) (q + 1))) 0 rfl rfl rfl (Nat.le_of_ble_eq_true rfl) rfl dX3_skipBlanks_32 (fun H locs hW => ?_)
          refine r_goto C 0 dX3_skipBlanks_35 (by decide) ?_
          exact ih0 (q + 1) (by omega) (by omega) (by rw [hq]; show (if _ then _ else _) = _; exact if_pos (by omega)) _ _ ls hW (lv_sub hl [0] rfl)
  exact hloop0 (x_length X - x_place X).toNat (x_place X) (by omega) (by omega) rfl _ _ ls hW (lv_sub hl [0] rfl)
set_option maxHeartbeats 4000000 in
set_option maxRecDepth 100000 in
theorem c_X3_readNumber (l : Launch) (g : GG) (o : Nat) (ad : Nat → Nat) (X : Tx) (sl : Int) (hX : xOk X) (hsl : 0 ≤ sl ∧ sl < 300) (hpl : x_place X ≤ x_length X) : MW l g yX3_readNumber cX3_readNumber 4 (some .boolean) 1 20 [.ref (o), .int (iI (sl))] (xW g o ad X) (xW g o ad ((xNumber sl X).2)) (some (.int (iI (bI ((xNumber sl X).1 = true))))) := by
  refine MW_start (by decide) (Nat.le_of_ble_eq_true rfl) ?_
  intro zp ze zs zm zb zt zc A hAe C hrt hlk hW ls hl
  have hA : ∀ q, zs.heap.size ≤ q → A q := fun q h => by rw [hAe]; exact Or.inr h
  have hl : lv_has ls 4 [(0, .ref (o)), (1, .int (iI (sl)))] := hl
  obtain ⟨hX_length, hX_orders, hX_bytes, hX_parts, hX_place⟩ := id hX
  refine r_iconst (z := 0) C dX3_readNumber_0 rfl ?_
  refine r_istore_n C [(2, .int (iI (0))), (0, .ref (o)), (1, .int (iI (sl)))] dX3_readNumber_1 hl (by decide) rfl (fun ls hl => ?_)
  refine r_iconst (z := 0) C dX3_readNumber_2 rfl ?_
  refine r_istore_n C [(3, .int (iI (0))), (2, .int (iI (0))), (0, .ref (o)), (1, .int (iI (sl)))] dX3_readNumber_3 hl (by decide) rfl (fun ls hl => ?_)
  have hloop4 : ∀ (k4 : Nat) (q v n : Int) (hkk : n + k4 = 3) (hn : 0 ≤ n) (hq0 : 0 ≤ q ∧ q ≤ x_length X) (hq : dgs (x_length X) (x_bytes X) 3 (x_place X) 0 0 = dgs (x_length X) (x_bytes X) k4 q v n) (H : Heap) (locs : List Loc) (ls : Array Slot), HW g A zs.heap (xW g o ad (xs_place X q)) H locs → lv_has ls 4 [(0, .ref (o)), (1, .int (iI (sl))), (2, .int (iI (v))), (3, .int (iI (n)))] → W zp l ze (rmm 1 20) zs zm (List.toArray [.ref (o), .int (iI (sl))]) zb zt zc H locs 0 0 (MQ zb (QW g (xW g o ad X) (xW g o ad ((xNumber sl X).2)) zs.heap.size (some (.int (iI (bI ((xNumber sl X).1 = true)))))) (List.toArray [.ref (o), .int (iI (sl))]) zs 0 0 A) (F0 zm 4 ls []) := by
    intro k4
    induction k4 with
    | zero =>
      intro q v n hkk hn hq0 hq H locs ls hW hl
      refine r_iload_n C dX3_readNumber_4 hl 3 rfl ?_
      refine r_iconst (z := 3) C dX3_readNumber_5 rfl ?_
      refine r_icmp_ge C 50 dX3_readNumber_6 (by decide) (by omega) (by omega) (fun hc1 => ?_) (fun hc1 => ?_)
      · skip
        have hD : dgs (x_length X) (x_bytes X) 3 (x_place X) 0 0 = (q, v, n) := by rw [hq]; first | rfl | (show (if _ then _ else _) = _; exact if_neg (by assumption))
        refine r_aload_n C dX3_readNumber_50 hl 0 rfl ?_
        refine r_get (v := .ref (ad 1)) C f_X3_22 hW.1 0 rfl rfl dX3_readNumber_51 ?_
        refine r_iload_n C dX3_readNumber_54 hl 1 rfl ?_
        refine r_iload_n C dX3_readNumber_55 hl 2 rfl ?_
        refine r_iast (f := x_parts X) C hW (xW g o ad (xs_parts (xs_place X q) (up (x_parts X) sl v))) 2 rfl (Nat.le_of_ble_eq_true rfl) (by omega) rfl dX3_readNumber_56 (fun H locs hW => ?_)
        refine r_iload_n C dX3_readNumber_57 hl 3 rfl ?_
        refine r_if_le C 72 dX3_readNumber_58 (by decide) (by omega) (fun hc2 => ?_) (fun hc2 => ?_)
        · skip
          refine r_iconst (z := 0) C dX3_readNumber_72 rfl ?_
          have hE : xNumber sl X = (decide (0 < n ∧ ¬ isFig (x_length X) (x_bytes X) q), xs_parts (xs_place X q) (up (x_parts X) sl v)) := by unfold xNumber xDg; rw [hD]
          exact MW_zret (d := (xNumber sl X).1 = true) C hAe hrt hlk hW dX3_readNumber_73 (by rw [hE]; exact (bI_f (fun h => by have h := of_decide_eq_true h; first | (exfalso; omega) | exact absurd (by assumption) h.2)).symm) rfl (by rw [hE])
        · skip
          refine r_aload_n C dX3_readNumber_61 hl 0 rfl ?_
          refine r_callR (rest := []) (r := .int (iI (bI (isFig ((x_length X)) ((x_bytes X)) (q))))) C hl.1 (c_X3_isFigure l g o ad (xs_parts (xs_place X q) (up (x_parts X) sl v))  (show xOk (xs_parts (xs_place X q) (up (x_parts X) sl v)) from xnum_ok hX hD (by omega))) v_X3_42 rfl hW.1 0 rfl rfl rfl (by decide) (by decide) (Nat.le_of_ble_eq_true rfl) dX3_readNumber_62 rfl ?_
          refine r_ifb_ne C 72 dX3_readNumber_65 (by decide) (fun hc3 => ?_) (fun hc3 => ?_)
          · skip
            refine r_iconst (z := 0) C dX3_readNumber_72 rfl ?_
            have hE : xNumber sl X = (decide (0 < n ∧ ¬ isFig (x_length X) (x_bytes X) q), xs_parts (xs_place X q) (up (x_parts X) sl v)) := by unfold xNumber xDg; rw [hD]
            exact MW_zret (d := (xNumber sl X).1 = true) C hAe hrt hlk hW dX3_readNumber_73 (by rw [hE]; exact (bI_f (fun h => by have h := of_decide_eq_true h; first | (exfalso; omega) | exact absurd (by assumption) h.2)).symm) rfl (by rw [hE])
          · skip
            refine r_iconst (z := 1) C dX3_readNumber_68 rfl ?_
            refine r_goto C 73 dX3_readNumber_69 (by decide) ?_
            have hE : xNumber sl X = (decide (0 < n ∧ ¬ isFig (x_length X) (x_bytes X) q), xs_parts (xs_place X q) (up (x_parts X) sl v)) := by unfold xNumber xDg; rw [hD]
            exact MW_zret (d := (xNumber sl X).1 = true) C hAe hrt hlk hW dX3_readNumber_73 (by rw [hE]; exact (bI_t (decide_eq_true ⟨by omega, by assumption⟩)).symm) rfl (by rw [hE])
      · exact absurd hc1 (by omega)
    | succ k4 ih4 =>
      intro q v n hkk hn hq0 hq H locs ls hW hl
      refine r_iload_n C dX3_readNumber_4 hl 3 rfl ?_
      refine r_iconst (z := 3) C dX3_readNumber_5 rfl ?_
      refine r_icmp_ge C 50 dX3_readNumber_6 (by decide) (by omega) (by omega) (fun hc4 => ?_) (fun hc4 => ?_)
      · exact absurd hc4 (by omega)
      · skip
        refine r_aload_n C dX3_readNumber_9 hl 0 rfl ?_
        refine r_callR (rest := []) (r := .int (iI (bI (isFig ((x_length X)) ((x_bytes X)) (q))))) C hl.1 (c_X3_isFigure l g o ad (xs_place X q)  (show xOk (xs_place X q) from ⟨hX.1, hX.2.1, hX.2.2.1, hX.2.2.2.1, show 0 ≤ q ∧ q ≤ 120 by omega⟩)) v_X3_42 rfl hW.1 0 rfl rfl rfl (by decide) (by decide) (Nat.le_of_ble_eq_true rfl) dX3_readNumber_10 rfl ?_
        refine r_ifb_eq C 50 dX3_readNumber_13 (by decide) (fun hc5 => ?_) (fun hc5 => ?_)
        · skip
          have hD : dgs (x_length X) (x_bytes X) 3 (x_place X) 0 0 = (q, v, n) := by rw [hq]; first | rfl | (show (if _ then _ else _) = _; exact if_neg (by assumption))
          refine r_aload_n C dX3_readNumber_50 hl 0 rfl ?_
          refine r_get (v := .ref (ad 1)) C f_X3_22 hW.1 0 rfl rfl dX3_readNumber_51 ?_
          refine r_iload_n C dX3_readNumber_54 hl 1 rfl ?_
          refine r_iload_n C dX3_readNumber_55 hl 2 rfl ?_
          refine r_iast (f := x_parts X) C hW (xW g o ad (xs_parts (xs_place X q) (up (x_parts X) sl v))) 2 rfl (Nat.le_of_ble_eq_true rfl) (by omega) rfl dX3_readNumber_56 (fun H locs hW => ?_)
          refine r_iload_n C dX3_readNumber_57 hl 3 rfl ?_
          refine r_if_le C 72 dX3_readNumber_58 (by decide) (by omega) (fun hc6 => ?_) (fun hc6 => ?_)
          · skip
            refine r_iconst (z := 0) C dX3_readNumber_72 rfl ?_
            have hE : xNumber sl X = (decide (0 < n ∧ ¬ isFig (x_length X) (x_bytes X) q), xs_parts (xs_place X q) (up (x_parts X) sl v)) := by unfold xNumber xDg; rw [hD]
            exact MW_zret (d := (xNumber sl X).1 = true) C hAe hrt hlk hW dX3_readNumber_73 (by rw [hE]; exact (bI_f (fun h => by have h := of_decide_eq_true h; first | (exfalso; omega) | exact absurd (by assumption) h.2)).symm) rfl (by rw [hE])
          · skip
            refine r_aload_n C dX3_readNumber_61 hl 0 rfl ?_
            refine r_callR (rest := []) (r := .int (iI (bI (isFig ((x_length X)) ((x_bytes X)) (q))))) C hl.1 (c_X3_isFigure l g o ad (xs_parts (xs_place X q) (up (x_parts X) sl v))  (show xOk (xs_parts (xs_place X q) (up (x_parts X) sl v)) from xnum_ok hX hD (by omega))) v_X3_42 rfl hW.1 0 rfl rfl rfl (by decide) (by decide) (Nat.le_of_ble_eq_true rfl) dX3_readNumber_62 rfl ?_
            refine r_ifb_ne C 72 dX3_readNumber_65 (by decide) (fun hc7 => ?_) (fun hc7 => ?_)
            · skip
              refine r_iconst (z := 0) C dX3_readNumber_72 rfl ?_
              have hE : xNumber sl X = (decide (0 < n ∧ ¬ isFig (x_length X) (x_bytes X) q), xs_parts (xs_place X q) (up (x_parts X) sl v)) := by unfold xNumber xDg; rw [hD]
              exact MW_zret (d := (xNumber sl X).1 = true) C hAe hrt hlk hW dX3_readNumber_73 (by rw [hE]; exact (bI_f (fun h => by have h := of_decide_eq_true h; first | (exfalso; omega) | exact absurd (by assumption) h.2)).symm) rfl (by rw [hE])
            · skip
              refine r_iconst (z := 1) C dX3_readNumber_68 rfl ?_
              refine r_goto C 73 dX3_readNumber_69 (by decide) ?_
              have hE : xNumber sl X = (decide (0 < n ∧ ¬ isFig (x_length X) (x_bytes X) q), xs_parts (xs_place X q) (up (x_parts X) sl v)) := by unfold xNumber xDg; rw [hD]
              exact MW_zret (d := (xNumber sl X).1 = true) C hAe hrt hlk hW dX3_readNumber_73 (by rw [hE]; exact (bI_t (decide_eq_true ⟨by omega, by assumption⟩)).symm) rfl (by rw [hE])
        · skip
          refine r_bipush (z := 10) C dX3_readNumber_16 rfl ?_
          refine r_iload_n C dX3_readNumber_18 hl 2 rfl ?_
          refine r_imul C dX3_readNumber_19 ?_
          refine r_aload_n C dX3_readNumber_20 hl 0 rfl ?_
          refine r_get (v := .ref (ad 0)) C f_X3_18 hW.1 0 rfl rfl dX3_readNumber_21 ?_
          refine r_aload_n C dX3_readNumber_24 hl 0 rfl ?_
          refine r_get (v := .int (iI (q))) C f_X3_25 hW.1 0 rfl rfl dX3_readNumber_25 ?_
          refine r_iald (f := x_bytes X) C hW.1 1 rfl (Nat.le_of_ble_eq_true rfl) (by omega) dX3_readNumber_28 ?_
          have hr8 := hX_bytes q (by omega) (by omega)
          refine r_iadd C dX3_readNumber_29 ?_
          refine r_bipush (z := 48) C dX3_readNumber_30 rfl ?_
          refine r_isub C dX3_readNumber_32 ?_
          refine r_istore_n C [(2, .int (iI (((10 * v) + (x_bytes X q)) - 48))), (0, .ref (o)), (1, .int (iI (sl))), (3, .int (iI (n)))] dX3_readNumber_33 hl (by decide) rfl (fun ls hl => ?_)
          refine r_aload_n C dX3_readNumber_34 hl 1 rfl ?_
          refine r_dup C rfl dX3_readNumber_35 ?_
          refine r_get (v := .int (iI (q))) C f_X3_25 hW.1 0 rfl rfl dX3_readNumber_36 ?_
          refine r_iconst (z := 1) C dX3_readNumber_39 rfl ?_
          refine r_iadd C dX3_readNumber_40 ?_
          refine r_put C f_X3_25 fp_3_4 hW (xW g o ad (xs_place (xs_place X q) (q + 1))) 0 rfl rfl rfl (Nat.le_of_ble_eq_true rfl) rfl dX3_readNumber_41 (fun H locs hW => ?_)
          refine r_iinc (v := n + 1) C [(3, .int (iI (n + 1))), (2, .int (iI (((10 * v) + (x_bytes X q)) - 48))), (0, .ref (o)), (1, .int (iI (sl)))] dX3_readNumber_44 hl 3 rfl (by decide) (by omega) rfl (fun ls hl => ?_)
          refine r_goto C 4 dX3_readNumber_47 (by decide) ?_
          exact ih4 (q + 1) _ (n + 1) (by omega) (by omega) (by omega) (by rw [hq]; show (if _ then _ else _) = _; exact if_pos (by assumption)) _ _ ls hW (lv_sub hl [2, 3, 1, 0] rfl)
  exact hloop4 3 (x_place X) 0 0 (by omega) (by omega) (by omega) rfl _ _ ls hW (lv_sub hl [2, 3, 1, 0] rfl)

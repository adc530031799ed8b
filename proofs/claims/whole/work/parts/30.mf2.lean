set_option maxHeartbeats 4000000 in
set_option maxRecDepth 100000 in
theorem c_X4_digestOfNodes (l : Launch) (g : GG) (o : Nat) (ma : Nat → Nat) (M : Mf) (ta : Nat → Nat) (T : Tb) (sa : Nat → Nat) (U : Sp) (po : Nat) (pa : Nat → Nat) (P : Pg) (h : Int) (hT : tOk T) (hU : uOk U) (hP : pOk P) : MR l g yX4_digestOfNodes cX4_digestOfNodes 7 (some .long) 2 44 [.ref (o), .ref (po), .long (lI (h))] (fW g o ma M ++ (tW g (ma 1) ta T ++ (uW g (ma 2) sa U ++ pW g po pa P))) (.long (lI (dNodes P T U h))) := by
  refine MR_start (by decide) (Nat.le_of_ble_eq_true rfl) ?_
  intro zp ze zs zm zb zt zc C hrt hlk hH ls hl
  have hl : lv_has ls 7 [(0, .ref (o)), (1, .ref (po)), (2, .long (lI (h)))] := hl
  obtain ⟨hT_ready, hT_seedProc, hT_seedFacts, hT_size, hT_seen, hT_keys, hT_placeOf, hT_before, hT_through, hT_way, hT_inner, hT_sites, hT_siteCount⟩ := id hT
  obtain ⟨hU_ready, hU_reached⟩ := id hU
  obtain ⟨hP_procs, hP_nodes, hP_edges, hP_start, hP_entryOf, hP_exitOf, hP_procOf, hP_kindOf, hP_from, hP_to, hP_callee⟩ := id hP
  refine r_lload_n C dX4_digestOfNodes_0 hl 2 rfl ?_
  refine r_lstore C [(4, .long (lI (h))), (0, .ref (o)), (1, .ref (po)), (2, .long (lI (h)))] dX4_digestOfNodes_1 hl (by decide) rfl (fun ls hl => ?_)
  refine r_iconst (z := 0) C dX4_digestOfNodes_3 rfl ?_
  refine r_istore C [(6, .int (iI (0))), (4, .long (lI (h))), (0, .ref (o)), (1, .ref (po)), (2, .long (lI (h)))] dX4_digestOfNodes_4 hl (by decide) rfl (fun ls hl => ?_)
  have hloop6 : ∀ (k6 : Nat) (n k : Int) (hkk : n + k6 = p_nodes P) (hn : 0 ≤ n) (hq : dNodes P T U h = it (fun n h => 31 * (31 * (31 * (31 * h + p_procOf P n) + p_kindOf P n) + tFacts T n) + u_reached U n) k6 n k) (ls : Array Slot), lv_has ls 7 [(0, .ref (o)), (1, .ref (po)), (4, .long (lI (k))), (6, .int (iI (n)))] → W zp l ze (rmm 2 44) zs zm (List.toArray [.ref (o), .ref (po), .long (lI (h))]) zb zt zc zs.heap [] 0 0 (MQ zb (QR (.long (lI (dNodes P T U h)))) (List.toArray [.ref (o), .ref (po), .long (lI (h))]) zs 0 0 (fun _ => False)) (F0 zm 6 ls []) := by
    intro k6
    induction k6 with
    | zero =>
      intro n k hkk hn hq ls hl
      refine r_iload C dX4_digestOfNodes_6 hl 3 rfl ?_
      refine r_aload_n C dX4_digestOfNodes_8 hl 1 rfl ?_
      refine r_get (v := .int (iI (p_nodes P))) C f_X4_234 hH 13 rfl rfl dX4_digestOfNodes_9 ?_
      refine r_icmp_ge C 94 dX4_digestOfNodes_12 (by decide) (by omega) (by omega) (fun hc1 => ?_) (fun hc1 => ?_)
      · skip
        refine r_lload C dX4_digestOfNodes_94 hl 2 rfl ?_
        exact MR_lret C hrt hlk dX4_digestOfNodes_96 (lvv (by rw [hq]; rfl))
      · exact absurd hc1 (by omega)
    | succ k6 ih6 =>
      intro n k hkk hn hq ls hl
      refine r_iload C dX4_digestOfNodes_6 hl 3 rfl ?_
      refine r_aload_n C dX4_digestOfNodes_8 hl 1 rfl ?_
      refine r_get (v := .int (iI (p_nodes P))) C f_X4_234 hH 13 rfl rfl dX4_digestOfNodes_9 ?_
      refine r_icmp_ge C 94 dX4_digestOfNodes_12 (by decide) (by omega) (by omega) (fun hc2 => ?_) (fun hc2 => ?_)
      · exact absurd hc2 (by omega)
      · skip
        refine r_ldc2 (v := lI 31) C kc_544 dX4_digestOfNodes_15 ?_
        refine r_lload C dX4_digestOfNodes_18 hl 2 rfl ?_
        refine r_lmul C dX4_digestOfNodes_20 ?_
        refine r_aload_n C dX4_digestOfNodes_21 hl 1 rfl ?_
        refine r_get (v := .ref (pa 2)) C f_X4_93 hH 13 rfl rfl dX4_digestOfNodes_22 ?_
        refine r_iload C dX4_digestOfNodes_25 hl 3 rfl ?_
        refine r_iald (f := p_procOf P) C hH 16 rfl (Nat.le_of_ble_eq_true rfl) (by omega) dX4_digestOfNodes_27 ?_
        have hr3 := hP_procOf n (by omega) (by omega)
        refine r_i2l C (by omega) dX4_digestOfNodes_28 ?_
        refine r_ladd C dX4_digestOfNodes_29 ?_
        refine r_lstore C [(4, .long (lI ((31 * k) + (p_procOf P n)))), (0, .ref (o)), (1, .ref (po)), (6, .int (iI (n)))] dX4_digestOfNodes_30 hl (by decide) rfl (fun ls hl => ?_)
        refine r_ldc2 (v := lI 31) C kc_544 dX4_digestOfNodes_32 ?_
        refine r_lload C dX4_digestOfNodes_35 hl 0 rfl ?_
        refine r_lmul C dX4_digestOfNodes_37 ?_
        refine r_aload_n C dX4_digestOfNodes_38 hl 2 rfl ?_
        refine r_get (v := .ref (pa 3)) C f_X4_97 hH 13 rfl rfl dX4_digestOfNodes_39 ?_
        refine r_iload C dX4_digestOfNodes_42 hl 3 rfl ?_
        refine r_iald (f := p_kindOf P) C hH 17 rfl (Nat.le_of_ble_eq_true rfl) (by omega) dX4_digestOfNodes_44 ?_
        have hr4 := hP_kindOf n (by omega) (by omega)
        refine r_i2l C (by omega) dX4_digestOfNodes_45 ?_
        refine r_ladd C dX4_digestOfNodes_46 ?_
        refine r_lstore C [(4, .long (lI ((31 * ((31 * k) + (p_procOf P n))) + (p_kindOf P n)))), (0, .ref (o)), (1, .ref (po)), (6, .int (iI (n)))] dX4_digestOfNodes_47 hl (by decide) rfl (fun ls hl => ?_)
        refine r_ldc2 (v := lI 31) C kc_544 dX4_digestOfNodes_49 ?_
        refine r_lload C dX4_digestOfNodes_52 hl 0 rfl ?_
        refine r_lmul C dX4_digestOfNodes_54 ?_
        refine r_aload_n C dX4_digestOfNodes_55 hl 1 rfl ?_
        refine r_get (v := .ref (ma 1)) C f_X4_25 hH 0 rfl rfl dX4_digestOfNodes_56 ?_
        refine r_iload C dX4_digestOfNodes_59 hl 3 rfl ?_
        refine r_callR (rest := [.long (lI (31 * ((31 * ((31 * k) + (p_procOf P n))) + (p_kindOf P n))))]) (r := .int (iI (tFacts T n))) C hl.1 (c_X2_factsAt l g (ma 1) ta T n (by assumption) (show 0 ≤ n ∧ n < 24 by omega)) v_X4_128 rfl (hH.sub [2, 3, 4, 5, 6, 7, 8, 9, 10] rfl) 0 rfl rfl rfl (by decide) (by decide) (Nat.le_of_ble_eq_true rfl) dX4_digestOfNodes_61 rfl ?_
        have hfr := tFacts_r (n := n) hT (by omega)
        refine r_i2l C (by omega) dX4_digestOfNodes_64 ?_
        refine r_ladd C dX4_digestOfNodes_65 ?_
        refine r_lstore C [(4, .long (lI ((31 * ((31 * ((31 * k) + (p_procOf P n))) + (p_kindOf P n))) + (tFacts T n)))), (0, .ref (o)), (1, .ref (po)), (6, .int (iI (n)))] dX4_digestOfNodes_66 hl (by decide) rfl (fun ls hl => ?_)
        refine r_ldc2 (v := lI 31) C kc_544 dX4_digestOfNodes_68 ?_
        refine r_lload C dX4_digestOfNodes_71 hl 0 rfl ?_
        refine r_lmul C dX4_digestOfNodes_73 ?_
        refine r_aload_n C dX4_digestOfNodes_74 hl 1 rfl ?_
        refine r_get (v := .ref (ma 2)) C f_X4_32 hH 0 rfl rfl dX4_digestOfNodes_75 ?_
        refine r_get (v := .ref (sa 0)) C f_X4_134 hH 11 rfl rfl dX4_digestOfNodes_78 ?_
        refine r_iload C dX4_digestOfNodes_81 hl 3 rfl ?_
        refine r_iald (f := u_reached U) C hH 12 rfl (Nat.le_of_ble_eq_true rfl) (by omega) dX4_digestOfNodes_83 ?_
        have hr5 := hU_reached n (by omega) (by omega)
        refine r_i2l C (by omega) dX4_digestOfNodes_84 ?_
        refine r_ladd C dX4_digestOfNodes_85 ?_
        refine r_lstore C [(4, .long (lI ((31 * ((31 * ((31 * ((31 * k) + (p_procOf P n))) + (p_kindOf P n))) + (tFacts T n))) + (u_reached U n)))), (0, .ref (o)), (1, .ref (po)), (6, .int (iI (n)))] dX4_digestOfNodes_86 hl (by decide) rfl (fun ls hl => ?_)
        refine r_iinc (v := n + 1) C [(6, .int (iI (n + 1))), (4, .long (lI ((31 * ((31 * ((31 * ((31 * k) + (p_procOf P n))) + (p_kindOf P n))) + (tFacts T n))) + (u_reached U n)))), (0, .ref (o)), (1, .ref (po))] dX4_digestOfNodes_88 hl 3 rfl (by decide) (by omega) rfl (fun ls hl => ?_)
        refine r_goto C 6 dX4_digestOfNodes_91 (by decide) ?_
        exact ih6 _ _ (by omega) (by omega) (by rw [hq, it_s]) ls (lv_sub hl [2, 3, 1, 0] rfl)
  exact hloop6 (p_nodes P).toNat 0 h (by omega) (by omega) rfl ls (lv_sub hl [2, 3, 1, 0] rfl)
set_option maxHeartbeats 4000000 in
set_option maxRecDepth 100000 in
theorem c_X4_digestOfEdges (l : Launch) (g : GG) (o : Nat) (ma : Nat → Nat) (M : Mf) (po : Nat) (pa : Nat → Nat) (P : Pg) (h : Int) (hP : pOk P) : MR l g yX4_digestOfEdges cX4_digestOfEdges 9 (some .long) 1 23 [.ref (o), .ref (po), .long (lI (h))] (fW g o ma M ++ pW g po pa P) (.long (lI (dEdges P h))) := by
  refine MR_start (by decide) (Nat.le_of_ble_eq_true rfl) ?_
  intro zp ze zs zm zb zt zc C hrt hlk hH ls hl
  have hl : lv_has ls 9 [(0, .ref (o)), (1, .ref (po)), (2, .long (lI (h)))] := hl
  obtain ⟨hP_procs, hP_nodes, hP_edges, hP_start, hP_entryOf, hP_exitOf, hP_procOf, hP_kindOf, hP_from, hP_to, hP_callee⟩ := id hP
  refine r_lload_n C dX4_digestOfEdges_0 hl 2 rfl ?_
  refine r_lstore C [(4, .long (lI (h))), (0, .ref (o)), (1, .ref (po)), (2, .long (lI (h)))] dX4_digestOfEdges_1 hl (by decide) rfl (fun ls hl => ?_)
  refine r_iconst (z := 0) C dX4_digestOfEdges_3 rfl ?_
  refine r_istore C [(6, .int (iI (0))), (4, .long (lI (h))), (0, .ref (o)), (1, .ref (po)), (2, .long (lI (h)))] dX4_digestOfEdges_4 hl (by decide) rfl (fun ls hl => ?_)
  have hloop6 : ∀ (k6 : Nat) (e k : Int) (hkk : e + k6 = p_edges P) (he : 0 ≤ e) (hq : dEdges P h = it (dEdge P) k6 e k) (ls : Array Slot), lv_has ls 9 [(0, .ref (o)), (1, .ref (po)), (4, .long (lI (k))), (6, .int (iI (e)))] → W zp l ze (rmm 1 23) zs zm (List.toArray [.ref (o), .ref (po), .long (lI (h))]) zb zt zc zs.heap [] 0 0 (MQ zb (QR (.long (lI (dEdges P h)))) (List.toArray [.ref (o), .ref (po), .long (lI (h))]) zs 0 0 (fun _ => False)) (F0 zm 6 ls []) := by
    intro k6
    induction k6 with
    | zero =>
      intro e k hkk he hq ls hl
      refine r_iload C dX4_digestOfEdges_6 hl 3 rfl ?_
      refine r_aload_n C dX4_digestOfEdges_8 hl 1 rfl ?_
      refine r_get (v := .int (iI (p_edges P))) C f_X4_237 hH 2 rfl rfl dX4_digestOfEdges_9 ?_
      refine r_icmp_ge C 108 dX4_digestOfEdges_12 (by decide) (by omega) (by omega) (fun hc1 => ?_) (fun hc1 => ?_)
      · skip
        refine r_lload C dX4_digestOfEdges_108 hl 2 rfl ?_
        exact MR_lret C hrt hlk dX4_digestOfEdges_110 (lvv (by rw [hq]; rfl))
      · exact absurd hc1 (by omega)
    | succ k6 ih6 =>
      intro e k hkk he hq ls hl
      refine r_iload C dX4_digestOfEdges_6 hl 3 rfl ?_
      refine r_aload_n C dX4_digestOfEdges_8 hl 1 rfl ?_
      refine r_get (v := .int (iI (p_edges P))) C f_X4_237 hH 2 rfl rfl dX4_digestOfEdges_9 ?_
      refine r_icmp_ge C 108 dX4_digestOfEdges_12 (by decide) (by omega) (by omega) (fun hc2 => ?_) (fun hc2 => ?_)
      · exact absurd hc2 (by omega)
      · skip
        refine r_iconst (z := 0) C dX4_digestOfEdges_15 rfl ?_
        refine r_istore C [(7, .int (iI (0))), (0, .ref (o)), (1, .ref (po)), (4, .long (lI (k))), (6, .int (iI (e)))] dX4_digestOfEdges_16 hl (by decide) rfl (fun ls hl => ?_)
        have hloop18 : ∀ (k18 : Nat) (w h1 : Int) (hkw : w + k18 = 3) (hw : 0 ≤ w) (hqw : it (fun w h => 31 * h + fEdge P e w) 3 0 k = it (fun w h => 31 * h + fEdge P e w) k18 w h1) (ls : Array Slot), lv_has ls 9 [(0, .ref (o)), (1, .ref (po)), (4, .long (lI (h1))), (6, .int (iI (e))), (7, .int (iI (w)))] → W zp l ze (rmm 1 23) zs zm (List.toArray [.ref (o), .ref (po), .long (lI (h))]) zb zt zc zs.heap [] 0 0 (MQ zb (QR (.long (lI (dEdges P h)))) (List.toArray [.ref (o), .ref (po), .long (lI (h))]) zs 0 0 (fun _ => False)) (F0 zm 18 ls []) := by
          intro k18
          induction k18 with
          | zero =>
            intro w h1 hkw hw hqw ls hl
            refine r_iload C dX4_digestOfEdges_18 hl 4 rfl ?_
            refine r_iconst (z := 2) C dX4_digestOfEdges_20 rfl ?_
            refine r_icmp_gt C 49 dX4_digestOfEdges_21 (by decide) (by omega) (by omega) (fun hc3 => ?_) (fun hc3 => ?_)
            · skip
              refine r_aload_n C dX4_digestOfEdges_49 hl 1 rfl ?_
              refine r_iload C dX4_digestOfEdges_50 hl 3 rfl ?_
              refine r_callR (rest := []) (r := .int (iI (if (p_callee P) e = -1 then 1 else 3))) C hl.1 (c_X0_flowsOf l g po pa P e (by assumption) (show 0 ≤ e ∧ e < 32 by omega)) v_X4_247 rfl (hH.sub [2, 3, 4, 5, 6, 7, 8, 9, 10] rfl) 0 rfl rfl rfl (by decide) (by decide) (Nat.le_of_ble_eq_true rfl) dX4_digestOfEdges_52 rfl ?_
              refine r_istore C [(7, .int (iI (if (p_callee P) e = -1 then 1 else 3))), (0, .ref (o)), (1, .ref (po)), (4, .long (lI (h1))), (6, .int (iI (e)))] dX4_digestOfEdges_55 hl (by decide) rfl (fun ls hl => ?_)
              have h13 : (if p_callee P e = -1 then (1 : Int) else 3) = 1 ∨ (if p_callee P e = -1 then (1 : Int) else 3) = 3 := by split <;> simp
              refine r_iconst (z := 0) C dX4_digestOfEdges_57 rfl ?_
              refine r_istore C [(8, .int (iI (0))), (7, .int (iI (if (p_callee P) e = -1 then 1 else 3))), (0, .ref (o)), (1, .ref (po)), (4, .long (lI (h1))), (6, .int (iI (e)))] dX4_digestOfEdges_58 hl (by decide) rfl (fun ls hl => ?_)
              have hloop60 : ∀ (k60 : Nat) (i h2 : Int) (hki : i + k60 = (if p_callee P e = -1 then 1 else 3) * 8) (hi : 0 ≤ i) (hqi : it (fun i h => 31 * h + pReach P e (i / 8) (i % 8)) ((if p_callee P e = -1 then 1 else 3) * 8 : Int).toNat 0 h1 = it (fun i h => 31 * h + pReach P e (i / 8) (i % 8)) k60 i h2) (ls : Array Slot), lv_has ls 9 [(0, .ref (o)), (1, .ref (po)), (4, .long (lI (h2))), (6, .int (iI (e))), (7, .int (iI (if (p_callee P) e = -1 then 1 else 3))), (8, .int (iI (i)))] → W zp l ze (rmm 1 23) zs zm (List.toArray [.ref (o), .ref (po), .long (lI (h))]) zb zt zc zs.heap [] 0 0 (MQ zb (QR (.long (lI (dEdges P h)))) (List.toArray [.ref (o), .ref (po), .long (lI (h))]) zs 0 0 (fun _ => False)) (F0 zm 60 ls []) := by
                intro k60
                induction k60 with
                | zero =>
                  intro i h2 hki hi hqi ls hl
                  refine r_iload C dX4_digestOfEdges_60 hl 5 rfl ?_
                  refine r_iload C dX4_digestOfEdges_62 hl 4 rfl ?_
                  refine r_bipush (z := 8) C dX4_digestOfEdges_64 rfl ?_
                  refine r_imul C dX4_digestOfEdges_66 ?_
                  refine r_icmp_ge C 102 dX4_digestOfEdges_67 (by decide) (by omega) (by omega) (fun hc4 => ?_) (fun hc4 => ?_)
                  · skip
                    refine r_iinc (v := e + 1) C [(6, .int (iI (e + 1))), (0, .ref (o)), (1, .ref (po)), (4, .long (lI (h2))), (7, .int (iI (if (p_callee P) e = -1 then 1 else 3))), (8, .int (iI (i)))] dX4_digestOfEdges_102 hl 3 rfl (by decide) (by omega) rfl (fun ls hl => ?_)
                    refine r_goto C 6 dX4_digestOfEdges_105 (by decide) ?_
                    exact ih6 (e + 1) h2 (by omega) (by omega) (by rw [hq, it_s]; congr 1; unfold dEdge; rw [hqw, it_0, hqi]; rfl) ls (lv_sub hl [1, 2, 3, 0] rfl)
                  · exact absurd hc4 (by omega)
                | succ k60 ih60 =>
                  intro i h2 hki hi hqi ls hl
                  refine r_iload C dX4_digestOfEdges_60 hl 5 rfl ?_
                  refine r_iload C dX4_digestOfEdges_62 hl 4 rfl ?_
                  refine r_bipush (z := 8) C dX4_digestOfEdges_64 rfl ?_
                  refine r_imul C dX4_digestOfEdges_66 ?_
                  refine r_icmp_ge C 102 dX4_digestOfEdges_67 (by decide) (by omega) (by omega) (fun hc5 => ?_) (fun hc5 => ?_)
                  · exact absurd hc5 (by omega)
                  · skip
                    refine r_ldc2 (v := lI 31) C kc_544 dX4_digestOfEdges_70 ?_
                    refine r_lload C dX4_digestOfEdges_73 hl 2 rfl ?_
                    refine r_lmul C dX4_digestOfEdges_75 ?_
                    refine r_aload_n C dX4_digestOfEdges_76 hl 1 rfl ?_
                    refine r_iload C dX4_digestOfEdges_77 hl 3 rfl ?_
                    refine r_iload C dX4_digestOfEdges_79 hl 5 rfl ?_
                    refine r_bipush (z := 8) C dX4_digestOfEdges_81 rfl ?_
                    refine r_idiv C (by omega) dX4_digestOfEdges_83 ?_
                    refine r_iload C dX4_digestOfEdges_84 hl 5 rfl ?_
                    refine r_bipush (z := 8) C dX4_digestOfEdges_86 rfl ?_
                    refine r_irem C (by omega) dX4_digestOfEdges_88 ?_
                    refine r_callR (rest := [.long (lI (31 * h2))]) (r := .int (iI (pReach P e (i / 8) (i % 8)))) C hl.1 (c_X0_reach l g po pa P e (i / 8) (i % 8) (show 0 ≤ e ∧ e < 32 by omega) (show 0 ≤ (i / 8) ∧ (i / 8) < 3 by omega) (show 0 ≤ (i % 8) ∧ (i % 8) < 8 by omega)) v_X4_114 rfl (hH.sub [2, 3, 4, 5, 6, 7, 8, 9, 10] rfl) 0 rfl rfl rfl (by decide) (by decide) (Nat.le_of_ble_eq_true rfl) dX4_digestOfEdges_89 rfl ?_
                    have hq6 := pReach_r P e (i / 8) (i % 8)
                    refine r_i2l C (by omega) dX4_digestOfEdges_92 ?_
                    refine r_ladd C dX4_digestOfEdges_93 ?_
                    refine r_lstore C [(4, .long (lI ((31 * h2) + (pReach P e (i / 8) (i % 8))))), (0, .ref (o)), (1, .ref (po)), (6, .int (iI (e))), (7, .int (iI (if (p_callee P) e = -1 then 1 else 3))), (8, .int (iI (i)))] dX4_digestOfEdges_94 hl (by decide) rfl (fun ls hl => ?_)
                    refine r_iinc (v := i + 1) C [(8, .int (iI (i + 1))), (4, .long (lI ((31 * h2) + (pReach P e (i / 8) (i % 8))))), (0, .ref (o)), (1, .ref (po)), (6, .int (iI (e))), (7, .int (iI (if (p_callee P) e = -1 then 1 else 3)))] dX4_digestOfEdges_96 hl 5 rfl (by decide) (by omega) rfl (fun ls hl => ?_)
                    refine r_goto C 60 dX4_digestOfEdges_99 (by decide) ?_
                    exact ih60 _ _ (by omega) (by omega) (by rw [hqi, it_s]) ls (lv_sub hl [2, 3, 1, 4, 5, 0] rfl)
              exact hloop60 ((if p_callee P e = -1 then 1 else 3) * 8 : Int).toNat 0 h1 (by omega) (by omega) rfl ls (lv_sub hl [2, 3, 4, 5, 1, 0] rfl)
            · exact absurd hc3 (by omega)
          | succ k18 ih18 =>
            intro w h1 hkw hw hqw ls hl
            refine r_iload C dX4_digestOfEdges_18 hl 4 rfl ?_
            refine r_iconst (z := 2) C dX4_digestOfEdges_20 rfl ?_
            refine r_icmp_gt C 49 dX4_digestOfEdges_21 (by decide) (by omega) (by omega) (fun hc7 => ?_) (fun hc7 => ?_)
            · exact absurd hc7 (by omega)
            · skip
              refine r_ldc2 (v := lI 31) C kc_544 dX4_digestOfEdges_24 ?_
              refine r_lload C dX4_digestOfEdges_27 hl 2 rfl ?_
              refine r_lmul C dX4_digestOfEdges_29 ?_
              refine r_aload_n C dX4_digestOfEdges_30 hl 0 rfl ?_
              refine r_aload_n C dX4_digestOfEdges_31 hl 1 rfl ?_
              refine r_iload C dX4_digestOfEdges_32 hl 3 rfl ?_
              refine r_iload C dX4_digestOfEdges_34 hl 4 rfl ?_
              refine r_callR (rest := [.long (lI (31 * h1))]) (r := .int (iI (fEdge P e w))) C hl.1 (c_X4_partOfEdge l g o ma M po pa P e w (by assumption) (show 0 ≤ e ∧ e < 32 by omega) (show rg w by omega)) v_X4_103 rfl hH 0 rfl rfl rfl (by decide) (by decide) (Nat.le_of_ble_eq_true rfl) dX4_digestOfEdges_36 rfl ?_
              have hq8 := fEdge_q P e w (by assumption) (by omega)
              refine r_i2l C (by omega) dX4_digestOfEdges_39 ?_
              refine r_ladd C dX4_digestOfEdges_40 ?_
              refine r_lstore C [(4, .long (lI ((31 * h1) + (fEdge P e w)))), (0, .ref (o)), (1, .ref (po)), (6, .int (iI (e))), (7, .int (iI (w)))] dX4_digestOfEdges_41 hl (by decide) rfl (fun ls hl => ?_)
              refine r_iinc (v := w + 1) C [(7, .int (iI (w + 1))), (4, .long (lI ((31 * h1) + (fEdge P e w)))), (0, .ref (o)), (1, .ref (po)), (6, .int (iI (e)))] dX4_digestOfEdges_43 hl 4 rfl (by decide) (by omega) rfl (fun ls hl => ?_)
              refine r_goto C 18 dX4_digestOfEdges_46 (by decide) ?_
              exact ih18 _ _ (by omega) (by omega) (by rw [hqw, it_s]) ls (lv_sub hl [2, 3, 1, 4, 0] rfl)
        exact hloop18 3 0 k (by omega) (by omega) rfl ls (lv_sub hl [1, 2, 3, 4, 0] rfl)
  exact hloop6 (p_edges P).toNat 0 h (by omega) (by omega) rfl ls (lv_sub hl [2, 3, 1, 0] rfl)
set_option maxHeartbeats 4000000 in
set_option maxRecDepth 100000 in
theorem c_X4_digest (l : Launch) (g : GG) (o : Nat) (ma : Nat → Nat) (M : Mf) (ta : Nat → Nat) (T : Tb) (sa : Nat → Nat) (U : Sp) (xa : Nat → Nat) (X : Tx) (p0 : Nat) (a0 : Nat → Nat) (P0 : Pg) (hM : fOk M) (hT : tOk T) (hU : uOk U) (hX : xOk X) (hP0 : pOk P0) (hr0 : f_rows M (f_now M).toNat = some p0) : MW l g yX4_digest cX4_digest 5 (some .long) 6 172 [.ref (o)] (fW g o ma M ++ (tW g (ma 1) ta T ++ (uW g (ma 2) sa U ++ (xW g (ma 3) xa X ++ pW g p0 a0 P0)))) (fW g o ma M ++ (tW g (ma 1) ta (tFill P0 0 (p_start P0) T) ++ (uW g (ma 2) sa (uFill P0 U) ++ (xW g (ma 3) xa X ++ pW g p0 a0 P0)))) (some (.long (lI (dEdges P0 (dNodes P0 (tFill P0 0 (p_start P0) T) (uFill P0 U) (dTop P0 (tFill P0 0 (p_start P0) T) M X)))))) := by
  refine MW_start (by decide) (Nat.le_of_ble_eq_true rfl) ?_
  intro zp ze zs zm zb zt zc A hAe C hrt hlk hW ls hl
  have hA : ∀ q, zs.heap.size ≤ q → A q := fun q h => by rw [hAe]; exact Or.inr h
  have hl : lv_has ls 5 [(0, .ref (o))] := hl
  obtain ⟨hM_now, hM_states, hM_timesBad, hM_timesNo, hM_timesFull⟩ := id hM
  obtain ⟨hT_ready, hT_seedProc, hT_seedFacts, hT_size, hT_seen, hT_keys, hT_placeOf, hT_before, hT_through, hT_way, hT_inner, hT_sites, hT_siteCount⟩ := id hT
  obtain ⟨hU_ready, hU_reached⟩ := id hU
  obtain ⟨hX_length, hX_orders, hX_bytes, hX_parts, hX_place⟩ := id hX
  obtain ⟨hP0_procs, hP0_nodes, hP0_edges, hP0_start, hP0_entryOf, hP0_exitOf, hP0_procOf, hP0_kindOf, hP0_from, hP0_to, hP0_callee⟩ := id hP0
  refine r_aload_n C dX4_digest_0 hl 0 rfl ?_
  refine r_get (v := .ref (ma 0)) C f_X4_11 hW.1 0 rfl rfl dX4_digest_1 ?_
  refine r_aload_n C dX4_digest_4 hl 0 rfl ?_
  refine r_get (v := .int (iI (f_now M))) C f_X4_15 hW.1 0 rfl rfl dX4_digest_5 ?_
  refine r_aald (f := f_rows M) (b := p0) C hW.1 1 rfl (Nat.le_of_ble_eq_true rfl) (by omega) hr0 dX4_digest_8 ?_
  refine r_astore_n C [(1, .ref (p0)), (0, .ref (o))] dX4_digest_9 hl (by decide) rfl (fun ls hl => ?_)
  refine r_aload_n C dX4_digest_10 hl 1 rfl ?_
  refine r_get (v := .ref (ma 1)) C f_X4_25 hW.1 0 rfl rfl dX4_digest_11 ?_
  refine r_aload_n C dX4_digest_14 hl 0 rfl ?_
  refine r_iconst (z := 0) C dX4_digest_15 rfl ?_
  refine r_aload_n C dX4_digest_16 hl 0 rfl ?_
  refine r_get (v := .int (iI (p_start P0))) C f_X4_117 hW.1 16 rfl rfl dX4_digest_17 ?_
  refine r_callW (rest := []) (r := none) (wr := fW g o ma M ++ (uW g (ma 2) sa U ++ xW g (ma 3) xa X)) (ws2 := fW g o ma M ++ (tW g (ma 1) ta (tFill P0 0 (p_start P0) T) ++ (uW g (ma 2) sa U ++ (xW g (ma 3) xa X ++ pW g p0 a0 P0)))) (st1 := []) C hl.1 hW hA (c_X2_fill l g (ma 1) ta T p0 a0 P0 0 (p_start P0) (by assumption) (by assumption) (show 0 ≤ 0 ∧ 0 < 5 by omega) (show 0 ≤ (p_start P0) ∧ (p_start P0) < 256 by omega)) v_X4_120 rfl [2, 3, 4, 5, 6, 7, 8, 9, 10, 16, 17, 18, 19, 20, 21, 22, 23, 24] [0, 1, 11, 12, 13, 14, 15] [0, 1, 7, 8, 9, 10, 11, 12, 13, 14, 15, 2, 3, 4, 5, 6, 16, 17, 18, 19, 20, 21, 22, 23, 24] rfl rfl (by decide) (by decide) rfl rfl 0 rfl rfl rfl (by decide) (by decide) (Nat.le_of_ble_eq_true rfl) dX4_digest_20 rfl rfl (fun H locs hW => ?_)
  have hok1 : tOk (tFill P0 0 (p_start P0) T) := tFill_ok (by assumption) (by assumption) (by omega) (by omega)
  refine r_aload_n C dX4_digest_23 hl 1 rfl ?_
  refine r_get (v := .ref (ma 2)) C f_X4_32 hW.1 0 rfl rfl dX4_digest_24 ?_
  refine r_aload_n C dX4_digest_27 hl 0 rfl ?_
  refine r_callW (rest := []) (r := none) (wr := fW g o ma M ++ (tW g (ma 1) ta (tFill P0 0 (p_start P0) T) ++ xW g (ma 3) xa X)) (ws2 := fW g o ma M ++ (tW g (ma 1) ta (tFill P0 0 (p_start P0) T) ++ (uW g (ma 2) sa (uFill P0 U) ++ (xW g (ma 3) xa X ++ pW g p0 a0 P0)))) (st1 := []) C hl.1 hW hA (c_X1_fill l g (ma 2) sa U p0 a0 P0  (by assumption) (by assumption)) v_X4_131 rfl [11, 12, 16, 17, 18, 19, 20, 21, 22, 23, 24] [0, 1, 2, 3, 4, 5, 6, 7, 8, 9, 10, 13, 14, 15] [0, 1, 2, 3, 4, 5, 6, 7, 8, 9, 10, 14, 15, 11, 12, 13, 16, 17, 18, 19, 20, 21, 22, 23, 24] rfl rfl (by decide) (by decide) rfl rfl 0 rfl rfl rfl (by decide) (by decide) (Nat.le_of_ble_eq_true rfl) dX4_digest_28 rfl rfl (fun H locs hW => ?_)
  have hUF : uOk (uFill P0 U) := uFill_ok hP0 hU
  refine r_ldc2 (v := lI 1807) C kc_543 dX4_digest_31 ?_
  refine r_lstore_n C [(2, .long (lI (1807))), (1, .ref (p0)), (0, .ref (o))] dX4_digest_34 hl (by decide) rfl (fun ls hl => ?_)
  refine r_iconst (z := 0) C dX4_digest_35 rfl ?_
  refine r_istore C [(4, .int (iI (0))), (2, .long (lI (1807))), (1, .ref (p0)), (0, .ref (o))] dX4_digest_36 hl (by decide) rfl (fun ls hl => ?_)
  have hloop38 : ∀ (k38 : Nat) (w h : Int) (hkk : w + k38 = 5) (hw : 0 ≤ w) (hq : it (fun w h => 31 * h + fTally M X w) 5 0 1807 = it (fun w h => 31 * h + fTally M X w) k38 w h) (H : Heap) (locs : List Loc) (ls : Array Slot), HW g A zs.heap (fW g o ma M ++ (tW g (ma 1) ta (tFill P0 0 (p_start P0) T) ++ (uW g (ma 2) sa (uFill P0 U) ++ (xW g (ma 3) xa X ++ pW g p0 a0 P0)))) H locs → lv_has ls 5 [(0, .ref (o)), (1, .ref (p0)), (2, .long (lI (h))), (4, .int (iI (w)))] → W zp l ze (rmm 6 172) zs zm (List.toArray [.ref (o)]) zb zt zc H locs 0 0 (MQ zb (QW g (fW g o ma M ++ (tW g (ma 1) ta T ++ (uW g (ma 2) sa U ++ (xW g (ma 3) xa X ++ pW g p0 a0 P0)))) (fW g o ma M ++ (tW g (ma 1) ta (tFill P0 0 (p_start P0) T) ++ (uW g (ma 2) sa (uFill P0 U) ++ (xW g (ma 3) xa X ++ pW g p0 a0 P0)))) zs.heap.size (some (.long (lI (dEdges P0 (dNodes P0 (tFill P0 0 (p_start P0) T) (uFill P0 U) (dTop P0 (tFill P0 0 (p_start P0) T) M X))))))) (List.toArray [.ref (o)]) zs 0 0 A) (F0 zm 38 ls []) := by
    intro k38
    induction k38 with
    | zero =>
      intro w h hkk hw hq H locs ls hW hl
      refine r_iload C dX4_digest_38 hl 3 rfl ?_
      refine r_iconst (z := 4) C dX4_digest_40 rfl ?_
      refine r_icmp_gt C 64 dX4_digest_41 (by decide) (by omega) (by omega) (fun hc2 => ?_) (fun hc2 => ?_)
      · skip
        refine r_iconst (z := 0) C dX4_digest_64 rfl ?_
        refine r_istore C [(4, .int (iI (0))), (0, .ref (o)), (1, .ref (p0)), (2, .long (lI (h)))] dX4_digest_65 hl (by decide) rfl (fun ls hl => ?_)
        have hloop67 : ∀ (k67 : Nat) (w2 h2 : Int) (hkk2 : w2 + k67 = 6) (hw2 : 0 ≤ w2) (hq2 : it (fun w h => 31 * h + fCounted P0 (tFill P0 0 (p_start P0) T) w) 6 0 h = it (fun w h => 31 * h + fCounted P0 (tFill P0 0 (p_start P0) T) w) k67 w2 h2) (H : Heap) (locs : List Loc) (ls : Array Slot), HW g A zs.heap (fW g o ma M ++ (tW g (ma 1) ta (tFill P0 0 (p_start P0) T) ++ (uW g (ma 2) sa (uFill P0 U) ++ (xW g (ma 3) xa X ++ pW g p0 a0 P0)))) H locs → lv_has ls 5 [(0, .ref (o)), (1, .ref (p0)), (2, .long (lI (h2))), (4, .int (iI (w2)))] → W zp l ze (rmm 6 172) zs zm (List.toArray [.ref (o)]) zb zt zc H locs 0 0 (MQ zb (QW g (fW g o ma M ++ (tW g (ma 1) ta T ++ (uW g (ma 2) sa U ++ (xW g (ma 3) xa X ++ pW g p0 a0 P0)))) (fW g o ma M ++ (tW g (ma 1) ta (tFill P0 0 (p_start P0) T) ++ (uW g (ma 2) sa (uFill P0 U) ++ (xW g (ma 3) xa X ++ pW g p0 a0 P0)))) zs.heap.size (some (.long (lI (dEdges P0 (dNodes P0 (tFill P0 0 (p_start P0) T) (uFill P0 U) (dTop P0 (tFill P0 0 (p_start P0) T) M X))))))) (List.toArray [.ref (o)]) zs 0 0 A) (F0 zm 67 ls []) := by
          intro k67
          induction k67 with
          | zero =>
            intro w2 h2 hkk2 hw2 hq2 H locs ls hW hl
            refine r_iload C dX4_digest_67 hl 3 rfl ?_
            refine r_iconst (z := 5) C dX4_digest_69 rfl ?_
            refine r_icmp_gt C 94 dX4_digest_70 (by decide) (by omega) (by omega) (fun hc3 => ?_) (fun hc3 => ?_)
            · skip
              refine r_aload_n C dX4_digest_94 hl 0 rfl ?_
              refine r_aload_n C dX4_digest_95 hl 1 rfl ?_
              refine r_aload_n C dX4_digest_96 hl 0 rfl ?_
              refine r_aload_n C dX4_digest_97 hl 1 rfl ?_
              refine r_lload_n C dX4_digest_98 hl 2 rfl ?_
              refine r_callR (rest := [.ref (p0), .ref (o)]) (r := .long (lI (dNodes P0 (tFill P0 0 (p_start P0) T) (uFill P0 U) h2))) C hl.1 (c_X4_digestOfNodes l g o ma M  ta (tFill P0 0 (p_start P0) T)  sa (uFill P0 U) p0 a0 P0 h2 (by assumption) (by assumption) (by assumption)) v_X4_196 rfl (hW.1.sub [0, 1, 2, 3, 4, 5, 6, 7, 8, 9, 10, 11, 12, 16, 17, 18, 19, 20, 21, 22, 23, 24] rfl) 0 rfl rfl rfl (by decide) (by decide) (Nat.le_of_ble_eq_true rfl) dX4_digest_99 rfl ?_
              refine r_callR (rest := []) (r := .long (lI (dEdges P0 (dNodes P0 (tFill P0 0 (p_start P0) T) (uFill P0 U) h2)))) C hl.1 (c_X4_digestOfEdges l g o ma M p0 a0 P0 (dNodes P0 (tFill P0 0 (p_start P0) T) (uFill P0 U) h2) (by assumption)) v_X4_200 rfl (hW.1.sub [0, 1, 16, 17, 18, 19, 20, 21, 22, 23, 24] rfl) 0 rfl rfl rfl (by decide) (by decide) (Nat.le_of_ble_eq_true rfl) dX4_digest_102 rfl ?_
              exact MW_lret C hAe hrt hlk hW dX4_digest_105 (lww (by unfold dTop; rw [hq]; show _ = dEdges P0 (dNodes P0 _ _ (it _ 6 0 h)); rw [hq2]; rfl)) rfl
            · exact absurd hc3 (by omega)
          | succ k67 ih67 =>
            intro w2 h2 hkk2 hw2 hq2 H locs ls hW hl
            refine r_iload C dX4_digest_67 hl 3 rfl ?_
            refine r_iconst (z := 5) C dX4_digest_69 rfl ?_
            refine r_icmp_gt C 94 dX4_digest_70 (by decide) (by omega) (by omega) (fun hc4 => ?_) (fun hc4 => ?_)
            · exact absurd hc4 (by omega)
            · skip
              refine r_ldc2 (v := lI 31) C kc_544 dX4_digest_73 ?_
              refine r_lload_n C dX4_digest_76 hl 2 rfl ?_
              refine r_lmul C dX4_digest_77 ?_
              refine r_aload_n C dX4_digest_78 hl 0 rfl ?_
              refine r_aload_n C dX4_digest_79 hl 1 rfl ?_
              refine r_iload C dX4_digest_80 hl 3 rfl ?_
              refine r_callR (rest := [.long (lI (31 * h2))]) (r := .int (iI (fCounted P0 (tFill P0 0 (p_start P0) T) w2))) C hl.1 (c_X4_counted l g o ma M  ta (tFill P0 0 (p_start P0) T) p0 a0 P0 w2 (by assumption) (by assumption) (show rg w2 by omega)) v_X4_124 rfl (hW.1.sub [0, 1, 2, 3, 4, 5, 6, 7, 8, 9, 10, 16, 17, 18, 19, 20, 21, 22, 23, 24] rfl) 0 rfl rfl rfl (by decide) (by decide) (Nat.le_of_ble_eq_true rfl) dX4_digest_82 rfl ?_
              have hq5 := fCounted_q P0 (tFill P0 0 (p_start P0) T) w2 (by assumption) (by assumption)
              refine r_i2l C (by omega) dX4_digest_85 ?_
              refine r_ladd C dX4_digest_86 ?_
              refine r_lstore_n C [(2, .long (lI ((31 * h2) + (fCounted P0 (tFill P0 0 (p_start P0) T) w2)))), (0, .ref (o)), (1, .ref (p0)), (4, .int (iI (w2)))] dX4_digest_87 hl (by decide) rfl (fun ls hl => ?_)
              refine r_iinc (v := w2 + 1) C [(4, .int (iI (w2 + 1))), (2, .long (lI ((31 * h2) + (fCounted P0 (tFill P0 0 (p_start P0) T) w2)))), (0, .ref (o)), (1, .ref (p0))] dX4_digest_88 hl 3 rfl (by decide) (by omega) rfl (fun ls hl => ?_)
              refine r_goto C 67 dX4_digest_91 (by decide) ?_
              exact ih67 _ _ (by omega) (by omega) (by rw [hq2, it_s]) _ _ ls hW (lv_sub hl [2, 3, 1, 0] rfl)
        exact hloop67 6 0 h (by omega) (by omega) rfl _ _ ls hW (lv_sub hl [1, 2, 3, 0] rfl)
      · exact absurd hc2 (by omega)
    | succ k38 ih38 =>
      intro w h hkk hw hq H locs ls hW hl
      refine r_iload C dX4_digest_38 hl 3 rfl ?_
      refine r_iconst (z := 4) C dX4_digest_40 rfl ?_
      refine r_icmp_gt C 64 dX4_digest_41 (by decide) (by omega) (by omega) (fun hc6 => ?_) (fun hc6 => ?_)
      · exact absurd hc6 (by omega)
      · skip
        refine r_ldc2 (v := lI 31) C kc_544 dX4_digest_44 ?_
        refine r_lload_n C dX4_digest_47 hl 2 rfl ?_
        refine r_lmul C dX4_digest_48 ?_
        refine r_aload_n C dX4_digest_49 hl 0 rfl ?_
        refine r_iload C dX4_digest_50 hl 3 rfl ?_
        refine r_callR (rest := [.long (lI (31 * h))]) (r := .int (iI (fTally M X w))) C hl.1 (c_X4_tally l g o ma M  xa X w (show rg w by omega)) v_X4_189 rfl (hW.1.sub [0, 1, 13, 14, 15] rfl) 0 rfl rfl rfl (by decide) (by decide) (Nat.le_of_ble_eq_true rfl) dX4_digest_52 rfl ?_
        have hq7 := fTally_q M X w (by assumption) (by assumption)
        refine r_i2l C (by omega) dX4_digest_55 ?_
        refine r_ladd C dX4_digest_56 ?_
        refine r_lstore_n C [(2, .long (lI ((31 * h) + (fTally M X w)))), (0, .ref (o)), (1, .ref (p0)), (4, .int (iI (w)))] dX4_digest_57 hl (by decide) rfl (fun ls hl => ?_)
        refine r_iinc (v := w + 1) C [(4, .int (iI (w + 1))), (2, .long (lI ((31 * h) + (fTally M X w)))), (0, .ref (o)), (1, .ref (p0))] dX4_digest_58 hl 3 rfl (by decide) (by omega) rfl (fun ls hl => ?_)
        refine r_goto C 38 dX4_digest_61 (by decide) ?_
        exact ih38 _ _ (by omega) (by omega) (by rw [hq, it_s]) _ _ ls hW (lv_sub hl [2, 3, 1, 0] rfl)
  exact hloop38 5 0 1807 (by omega) (by omega) rfl _ _ ls hW (lv_sub hl [3, 2, 1, 0] rfl)
set_option maxHeartbeats 4000000 in
set_option maxRecDepth 100000 in
theorem c_X4_does (l : Launch) (g : GG) (o : Nat) (ma : Nat → Nat) (M : Mf) (ta : Nat → Nat) (T : Tb) (sa : Nat → Nat) (U : Sp) (xa : Nat → Nat) (X : Tx) (p0 : Nat) (a0 : Nat → Nat) (P0 : Pg) (p1 : Nat) (a1 : Nat → Nat) (P1 : Pg) (hM : fOk M) (hT : tOk T) (hU : uOk U) (hX : xOk X) (hP0 : pOk P0) (hP1 : pOk P1) (hr0 : f_rows M (f_now M).toNat = some p0) (hr1 : f_rows M ((f_now M + 1) % 7).toNat = some p1) : MW l g yX4_does cX4_does 4 (some .int) 4 96 [.ref (o)] (fW g o ma M ++ (tW g (ma 1) ta T ++ (uW g (ma 2) sa U ++ (xW g (ma 3) xa X ++ (pW g p0 a0 P0 ++ pW g p1 a1 P1))))) (fW g o ma ((fDoes P0 P1 M T U X).2.1) ++ (tW g (ma 1) ta ((fDoes P0 P1 M T U X).2.2.1) ++ (uW g (ma 2) sa ((fDoes P0 P1 M T U X).2.2.2.1) ++ (xW g (ma 3) xa ((fDoes P0 P1 M T U X).2.2.2.2.1) ++ (pW g p0 a0 P0 ++ pW g p1 a1 ((fDoes P0 P1 M T U X).2.2.2.2.2)))))) (some (.int (iI ((fDoes P0 P1 M T U X).1)))) := by
  refine MW_start (by decide) (Nat.le_of_ble_eq_true rfl) ?_
  intro zp ze zs zm zb zt zc A hAe C hrt hlk hW ls hl
  have hA : ∀ q, zs.heap.size ≤ q → A q := fun q h => by rw [hAe]; exact Or.inr h
  have hl : lv_has ls 4 [(0, .ref (o))] := hl
  obtain ⟨hM_now, hM_states, hM_timesBad, hM_timesNo, hM_timesFull⟩ := id hM
  obtain ⟨hT_ready, hT_seedProc, hT_seedFacts, hT_size, hT_seen, hT_keys, hT_placeOf, hT_before, hT_through, hT_way, hT_inner, hT_sites, hT_siteCount⟩ := id hT
  obtain ⟨hU_ready, hU_reached⟩ := id hU
  obtain ⟨hX_length, hX_orders, hX_bytes, hX_parts, hX_place⟩ := id hX
  obtain ⟨hP0_procs, hP0_nodes, hP0_edges, hP0_start, hP0_entryOf, hP0_exitOf, hP0_procOf, hP0_kindOf, hP0_from, hP0_to, hP0_callee⟩ := id hP0
  obtain ⟨hP1_procs, hP1_nodes, hP1_edges, hP1_start, hP1_entryOf, hP1_exitOf, hP1_procOf, hP1_kindOf, hP1_from, hP1_to, hP1_callee⟩ := id hP1
  refine r_aload_n C dX4_does_0 hl 0 rfl ?_
  refine r_get (v := .ref (ma 3)) C f_X4_39 hW.1 0 rfl rfl dX4_does_1 ?_
  refine r_callW (rest := []) (r := some (.int (iI ((xRead X).1)))) (wr := fW g o ma M ++ (tW g (ma 1) ta T ++ (uW g (ma 2) sa U ++ (pW g p0 a0 P0 ++ pW g p1 a1 P1)))) (ws2 := fW g o ma M ++ (tW g (ma 1) ta T ++ (uW g (ma 2) sa U ++ (xW g (ma 3) xa ((xRead X).2) ++ (pW g p0 a0 P0 ++ pW g p1 a1 P1))))) (st1 := [.int (iI ((xRead X).1))]) C hl.1 hW hA (c_X3_read l g (ma 3) xa X  (by assumption)) v_X4_176 rfl [13, 14, 15] [0, 1, 2, 3, 4, 5, 6, 7, 8, 9, 10, 11, 12, 16, 17, 18, 19, 20, 21, 22, 23, 24, 25, 26, 27, 28, 29, 30, 31, 32, 33] [0, 1, 2, 3, 4, 5, 6, 7, 8, 9, 10, 11, 12, 31, 32, 33, 13, 14, 15, 16, 17, 18, 19, 20, 21, 22, 23, 24, 25, 26, 27, 28, 29, 30] rfl rfl (by decide) (by decide) rfl rfl 0 rfl rfl rfl (by decide) (by decide) (Nat.le_of_ble_eq_true rfl) dX4_does_4 rfl rfl (fun H locs hW => ?_)
  have hXR := (xRead_ok hX).1
  have hXR2 := hXR.2.1
  have hXa := xRead_a hX
  refine r_istore_n C [(1, .int (iI ((xRead X).1))), (0, .ref (o))] dX4_does_7 hl (by decide) rfl (fun ls hl => ?_)
  refine r_iload_n C dX4_does_8 hl 0 rfl ?_
  refine r_iconst (z := -1) C dX4_does_9 rfl ?_
  refine r_icmp_eq C 18 dX4_does_10 (by decide) (by omega) (by omega) (fun hc1 => ?_) (fun hc1 => ?_)
  · skip
    refine r_aload_n C dX4_does_18 hl 1 rfl ?_
    refine r_callW (rest := []) (r := some (.ref (p1))) (wr := tW g (ma 1) ta T ++ (uW g (ma 2) sa U ++ xW g (ma 3) xa ((xRead X).2))) (ws2 := fW g o ma M ++ (tW g (ma 1) ta T ++ (uW g (ma 2) sa U ++ (xW g (ma 3) xa ((xRead X).2) ++ (pW g p0 a0 P0 ++ pW g p1 a1 (pCopy P0 P1)))))) (st1 := [.ref (p1)]) C hl.1 hW hA (c_X4_draft l g o ma M p0 a0 P0 p1 a1 P1  (by assumption) (by assumption) (by assumption) (by assumption)) v_X4_57 rfl [0, 1, 16, 17, 18, 19, 20, 21, 22, 23, 24, 25, 26, 27, 28, 29, 30, 31, 32, 33] [2, 3, 4, 5, 6, 7, 8, 9, 10, 11, 12, 13, 14, 15] [14, 15, 0, 1, 2, 3, 4, 5, 6, 7, 8, 9, 10, 11, 12, 13, 16, 17, 18, 19, 20, 21, 22, 23, 24, 25, 26, 27, 28, 29, 30, 31, 32, 33] rfl rfl (by decide) (by decide) rfl rfl 0 rfl rfl rfl (by decide) (by decide) (Nat.le_of_ble_eq_true rfl) dX4_does_19 rfl rfl (fun H locs hW => ?_)
    have hDD : pOk (pCopy P0 P1) := pCopy_ok hP0 hP1
    refine r_astore_n C [(2, .ref (p1)), (1, .int (iI ((xRead X).1))), (0, .ref (o))] dX4_does_22 hl (by decide) rfl (fun ls hl => ?_)
    refine r_iconst (z := 0) C dX4_does_23 rfl ?_
    refine r_istore_n C [(3, .int (iI (0))), (2, .ref (p1)), (1, .int (iI ((xRead X).1))), (0, .ref (o))] dX4_does_24 hl (by decide) rfl (fun ls hl => ?_)
    have hloop25 : ∀ (k25 : Nat) (i : Int) (D : Pg) (hkk : i + k25 = x_orders (xRead X).2) (hi : 0 ≤ i) (hDo : pOk D) (hq : fDoL (xRead X).2 (x_orders (xRead X).2).toNat 0 (pCopy P0 P1) = fDoL (xRead X).2 k25 i D) (H : Heap) (locs : List Loc) (ls : Array Slot), HW g A zs.heap (fW g o ma M ++ (tW g (ma 1) ta T ++ (uW g (ma 2) sa U ++ (xW g (ma 3) xa ((xRead X).2) ++ (pW g p0 a0 P0 ++ pW g p1 a1 D))))) H locs → lv_has ls 4 [(0, .ref (o)), (2, .ref (p1)), (3, .int (iI (i)))] → W zp l ze (rmm 4 96) zs zm (List.toArray [.ref (o)]) zb zt zc H locs 0 0 (MQ zb (QW g (fW g o ma M ++ (tW g (ma 1) ta T ++ (uW g (ma 2) sa U ++ (xW g (ma 3) xa X ++ (pW g p0 a0 P0 ++ pW g p1 a1 P1))))) (fW g o ma ((fDoes P0 P1 M T U X).2.1) ++ (tW g (ma 1) ta ((fDoes P0 P1 M T U X).2.2.1) ++ (uW g (ma 2) sa ((fDoes P0 P1 M T U X).2.2.2.1) ++ (xW g (ma 3) xa ((fDoes P0 P1 M T U X).2.2.2.2.1) ++ (pW g p0 a0 P0 ++ pW g p1 a1 ((fDoes P0 P1 M T U X).2.2.2.2.2)))))) zs.heap.size (some (.int (iI ((fDoes P0 P1 M T U X).1))))) (List.toArray [.ref (o)]) zs 0 0 A) (F0 zm 25 ls []) := by
      intro k25
      induction k25 with
      | zero =>
        intro i D hkk hi hDo hq H locs ls hW hl
        refine r_iload_n C dX4_does_25 hl 2 rfl ?_
        refine r_aload_n C dX4_does_26 hl 0 rfl ?_
        refine r_get (v := .ref (ma 3)) C f_X4_39 hW.1 0 rfl rfl dX4_does_27 ?_
        refine r_get (v := .int (iI (x_orders ((xRead X).2)))) C f_X4_179 hW.1 13 rfl rfl dX4_does_30 ?_
        refine r_icmp_ge C 57 dX4_does_33 (by decide) (by omega) (by omega) (fun hc2 => ?_) (fun hc2 => ?_)
        · skip
          refine r_aload_n C dX4_does_57 hl 0 rfl ?_
          refine r_aload_n C dX4_does_58 hl 0 rfl ?_
          refine r_get (v := .ref (ma 3)) C f_X4_39 hW.1 0 rfl rfl dX4_does_59 ?_
          refine r_get (v := .int (iI (x_orders ((xRead X).2)))) C f_X4_179 hW.1 13 rfl rfl dX4_does_62 ?_
          refine r_callW (rest := []) (r := some (.int (iI ((x_orders ((xRead X).2)))))) (wr := xW g (ma 3) xa ((xRead X).2) ++ (pW g p0 a0 P0 ++ pW g p1 a1 D)) (ws2 := fW g o ma (fSetM (x_orders ((xRead X).2)) M) ++ (tW g (ma 1) ta (fSetT (x_orders ((xRead X).2)) T) ++ (uW g (ma 2) sa (fSetU (x_orders ((xRead X).2)) U) ++ (xW g (ma 3) xa ((xRead X).2) ++ (pW g p0 a0 P0 ++ pW g p1 a1 D))))) (st1 := [.int (iI ((x_orders ((xRead X).2))))]) C hl.1 hW hA (c_X4_settled l g o ma M  ta T  sa U (x_orders ((xRead X).2)) (by assumption) (show rg (x_orders ((xRead X).2)) by omega)) v_X4_61 rfl [0, 1, 2, 3, 4, 5, 6, 7, 8, 9, 10, 11, 12] [13, 14, 15, 16, 17, 18, 19, 20, 21, 22, 23, 24, 25, 26, 27, 28, 29, 30, 31, 32, 33] [21, 22, 23, 24, 25, 26, 27, 28, 29, 30, 31, 32, 33, 0, 1, 2, 3, 4, 5, 6, 7, 8, 9, 10, 11, 12, 13, 14, 15, 16, 17, 18, 19, 20] rfl rfl (by decide) (by decide) rfl rfl 0 rfl rfl rfl (by decide) (by decide) (Nat.le_of_ble_eq_true rfl) dX4_does_65 rfl rfl (fun H locs hW => ?_)
          have hE : fDoes P0 P1 M T U X = ((x_orders ((xRead X).2)), fSetM (x_orders ((xRead X).2)) M, fSetT (x_orders ((xRead X).2)) T, fSetU (x_orders ((xRead X).2)) U, (xRead X).2, D) := (if_neg (by omega)).trans (by rw [show fDoL (xRead X).2 (x_orders (xRead X).2).toNat 0 (pCopy P0 P1) = (true, i, D) from hq]; exact if_pos rfl)
          exact MW_iret C hAe hrt hlk hW dX4_does_68 (iw (by rw [hE])) (by rw [hE])
        · exact absurd hc2 (by omega)
      | succ k25 ih25 =>
        intro i D hkk hi hDo hq H locs ls hW hl
        refine r_iload_n C dX4_does_25 hl 2 rfl ?_
        refine r_aload_n C dX4_does_26 hl 0 rfl ?_
        refine r_get (v := .ref (ma 3)) C f_X4_39 hW.1 0 rfl rfl dX4_does_27 ?_
        refine r_get (v := .int (iI (x_orders ((xRead X).2)))) C f_X4_179 hW.1 13 rfl rfl dX4_does_30 ?_
        refine r_icmp_ge C 57 dX4_does_33 (by decide) (by omega) (by omega) (fun hc3 => ?_) (fun hc3 => ?_)
        · exact absurd hc3 (by omega)
        · skip
          refine r_aload_n C dX4_does_36 hl 0 rfl ?_
          refine r_aload_n C dX4_does_37 hl 1 rfl ?_
          refine r_iload_n C dX4_does_38 hl 2 rfl ?_
          refine r_callW (rest := []) (r := some (.int (iI ((fObey ((xRead X).2) i D).1)))) (wr := tW g (ma 1) ta T ++ (uW g (ma 2) sa U ++ pW g p0 a0 P0)) (ws2 := fW g o ma M ++ (tW g (ma 1) ta T ++ (uW g (ma 2) sa U ++ (xW g (ma 3) xa ((xRead X).2) ++ (pW g p0 a0 P0 ++ pW g p1 a1 ((fObey ((xRead X).2) i D).2)))))) (st1 := [.int (iI ((fObey ((xRead X).2) i D).1))]) C hl.1 hW hA (c_X4_obeyed l g o ma M  xa ((xRead X).2) p1 a1 D i (by assumption) (by assumption) (show 0 ≤ i ∧ i < 60 by omega)) v_X4_182 rfl [0, 1, 13, 14, 15, 25, 26, 27, 28, 29, 30, 31, 32, 33] [2, 3, 4, 5, 6, 7, 8, 9, 10, 11, 12, 16, 17, 18, 19, 20, 21, 22, 23, 24] [20, 21, 0, 1, 2, 3, 4, 5, 6, 7, 8, 9, 10, 22, 23, 24, 11, 12, 13, 14, 15, 16, 17, 18, 19, 25, 26, 27, 28, 29, 30, 31, 32, 33] rfl rfl (by decide) (by decide) rfl rfl 0 rfl rfl rfl (by decide) (by decide) (Nat.le_of_ble_eq_true rfl) dX4_does_39 rfl rfl (fun H locs hW => ?_)
          have hOb := fObey_a (X := (xRead X).2) (i := i) hDo
          refine r_if_ge C 51 dX4_does_42 (by decide) (by omega) (fun hc4 => ?_) (fun hc4 => ?_)
          · skip
            refine r_iinc (v := i + 1) C [(3, .int (iI (i + 1))), (0, .ref (o)), (2, .ref (p1))] dX4_does_51 hl 2 rfl (by decide) (by omega) rfl (fun ls hl => ?_)
            refine r_goto C 25 dX4_does_54 (by decide) ?_
            exact ih25 (i + 1) _ (by omega) (by omega) (fObey_ok hDo) (by rw [hq]; exact if_neg (by omega)) _ _ ls hW (lv_sub hl [1, 2, 0] rfl)
          · skip
            refine r_sipush (z := -1000) C dX4_does_45 rfl ?_
            refine r_iload_n C dX4_does_48 hl 2 rfl ?_
            refine r_isub C dX4_does_49 ?_
            have hE : fDoes P0 P1 M T U X = ((-1000) - i, M, T, U, (xRead X).2, (fObey ((xRead X).2) i D).2) := (if_neg (by omega)).trans (by rw [show fDoL (xRead X).2 (x_orders (xRead X).2).toNat 0 (pCopy P0 P1) = (false, i, (fObey (xRead X).2 i D).2) from by rw [hq]; exact if_pos (by omega)]; rfl)
            exact MW_iret C hAe hrt hlk hW dX4_does_50 (iw (by rw [hE])) (by rw [hE])
    exact hloop25 (x_orders (xRead X).2).toNat 0 _ (by omega) (by omega) hDD rfl _ _ ls hW (lv_sub hl [3, 1, 0] rfl)
  · skip
    refine r_bipush (z := -10) C dX4_does_13 rfl ?_
    refine r_iload_n C dX4_does_15 hl 0 rfl ?_
    refine r_isub C dX4_does_16 ?_
    have hE : fDoes P0 P1 M T U X = ((-10) - ((xRead X).1), M, T, U, (xRead X).2, P1) := if_pos (by omega)
    exact MW_iret C hAe hrt hlk hW dX4_does_17 (iw (by rw [hE])) (by rw [hE])

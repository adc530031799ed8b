set_option maxHeartbeats 4000000 in
set_option maxRecDepth 100000 in
theorem c_X2_leaveAsKnown (l : Launch) (g : GG) (o : Nat) (ad : Nat → Nat) (T : Tb) (po : Nat) (pa : Nat → Nat) (P : Pg) (x e ec : Int) (hT : tOk T) (hP : pOk P) (hx : 0 ≤ x ∧ x < 1536) (he : 0 ≤ e ∧ e < 32) (hec : 0 ≤ ec ∧ ec < 192) : MW l g yX2_leaveAsKnown cX2_leaveAsKnown 7 none 2 72 [.ref (o), .ref (po), .int (iI (x)), .int (iI (e)), .int (iI (ec))] (tW g o ad T ++ pW g po pa P) (tW g o ad (tLeave P x e ec T) ++ pW g po pa P) none := by
  refine MW_start (by decide) (Nat.le_of_ble_eq_true rfl) ?_
  intro zp ze zs zm zb zt zc A hAe C hrt hlk hW ls hl
  have hA : ∀ q, zs.heap.size ≤ q → A q := fun q h => by rw [hAe]; exact Or.inr h
  have hl : lv_has ls 7 [(0, .ref (o)), (1, .ref (po)), (2, .int (iI (x))), (3, .int (iI (e))), (4, .int (iI (ec)))] := hl
  obtain ⟨hT_ready, hT_seedProc, hT_seedFacts, hT_size, hT_seen, hT_keys, hT_placeOf, hT_before, hT_through, hT_way, hT_inner, hT_sites, hT_siteCount⟩ := id hT
  obtain ⟨hP_procs, hP_nodes, hP_edges, hP_start, hP_entryOf, hP_exitOf, hP_procOf, hP_kindOf, hP_from, hP_to, hP_callee⟩ := id hP
  refine r_iconst (z := 0) C dX2_leaveAsKnown_0 rfl ?_
  refine r_istore C [(5, .int (iI (0))), (0, .ref (o)), (1, .ref (po)), (2, .int (iI (x))), (3, .int (iI (e))), (4, .int (iI (ec)))] dX2_leaveAsKnown_1 hl (by decide) rfl (fun ls hl => ?_)
  have hloop3 : ∀ (k3 : Nat) (f : Int) (X : Tb) (hkk : f + k3 = 8) (hf : 0 ≤ f) (hXo : tOk X) (hq : tLeave P x e ec T = it (tLeaveF P x e ec) k3 f X) (H : Heap) (locs : List Loc) (ls : Array Slot), HW g A zs.heap (tW g o ad X ++ pW g po pa P) H locs → lv_has ls 7 [(0, .ref (o)), (1, .ref (po)), (2, .int (iI (x))), (3, .int (iI (e))), (4, .int (iI (ec))), (5, .int (iI (f)))] → W zp l ze (rmm 2 72) zs zm (List.toArray [.ref (o), .ref (po), .int (iI (x)), .int (iI (e)), .int (iI (ec))]) zb zt zc H locs 0 0 (MQ zb (QW g (tW g o ad T ++ pW g po pa P) (tW g o ad (tLeave P x e ec T) ++ pW g po pa P) zs.heap.size none) (List.toArray [.ref (o), .ref (po), .int (iI (x)), .int (iI (e)), .int (iI (ec))]) zs 0 0 A) (F0 zm 3 ls []) := by
    intro k3
    induction k3 with
    | zero =>
      intro f X hkk hf hXo hq H locs ls hW hl
      obtain ⟨hXo_ready, hXo_seedProc, hXo_seedFacts, hXo_size, hXo_seen, hXo_keys, hXo_placeOf, hXo_before, hXo_through, hXo_way, hXo_inner, hXo_sites, hXo_siteCount⟩ := id hXo
      refine r_iload C dX2_leaveAsKnown_3 hl 5 rfl ?_
      refine r_bipush (z := 8) C dX2_leaveAsKnown_5 rfl ?_
      refine r_icmp_ge C 69 dX2_leaveAsKnown_7 (by decide) (by omega) (by omega) (fun hc1 => ?_) (fun hc1 => ?_)
      · skip
        have hE : tLeave P x e ec T = X := by rw [hq]; rfl
        exact MW_vret C hAe hrt hlk hW dX2_leaveAsKnown_69 rfl (by rw [hE])
      · exact absurd hc1 (by omega)
    | succ k3 ih3 =>
      intro f X hkk hf hXo hq H locs ls hW hl
      obtain ⟨hXo_ready, hXo_seedProc, hXo_seedFacts, hXo_size, hXo_seen, hXo_keys, hXo_placeOf, hXo_before, hXo_through, hXo_way, hXo_inner, hXo_sites, hXo_siteCount⟩ := id hXo
      refine r_iload C dX2_leaveAsKnown_3 hl 5 rfl ?_
      refine r_bipush (z := 8) C dX2_leaveAsKnown_5 rfl ?_
      refine r_icmp_ge C 69 dX2_leaveAsKnown_7 (by decide) (by omega) (by omega) (fun hc2 => ?_) (fun hc2 => ?_)
      · exact absurd hc2 (by omega)
      · skip
        refine r_aload_n C dX2_leaveAsKnown_10 hl 0 rfl ?_
        refine r_get (v := .ref (ad 0)) C f_X2_25 hW.1 0 rfl rfl dX2_leaveAsKnown_11 ?_
        refine r_iload C dX2_leaveAsKnown_14 hl 4 rfl ?_
        refine r_iald (f := t_seen X) C hW.1 1 rfl (Nat.le_of_ble_eq_true rfl) (by omega) dX2_leaveAsKnown_16 ?_
        have hr3 := hXo_seen ec (by omega) (by omega)
        refine r_iload C dX2_leaveAsKnown_17 hl 5 rfl ?_
        refine r_callRN (rest := []) (r := .int (iI (bI (tb (t_seen X ec) f = true)))) C hl.1 (c_X4_has l g  (t_seen X ec) f (show 0 ≤ (t_seen X ec) ∧ (t_seen X ec) < 2147483648 by omega) (show 0 ≤ f ∧ f < 31 by omega)) v_X2_53 rfl (fun k q h => by simp at h) (by decide) (by decide) (Nat.le_of_ble_eq_true rfl) dX2_leaveAsKnown_19 rfl ?_
        refine r_ifb_eq C 63 dX2_leaveAsKnown_22 (by decide) (fun hc4 => ?_) (fun hc4 => ?_)
        · skip
          refine r_iinc (v := f + 1) C [(5, .int (iI (f + 1))), (0, .ref (o)), (1, .ref (po)), (2, .int (iI (x))), (3, .int (iI (e))), (4, .int (iI (ec)))] dX2_leaveAsKnown_63 hl 5 rfl (by decide) (by omega) rfl (fun ls hl => ?_)
          refine r_goto C 3 dX2_leaveAsKnown_66 (by decide) ?_
          have hE : tLeaveF P x e ec f X = X := if_neg hc4
          exact ih3 _ (X) (by omega) (by omega) (by rw [← hE]; exact tLeaveF_ok hP hXo (by omega) (by omega) (by omega) (by omega)) (by rw [hq, it_s, hE]) _ _ ls hW (lv_sub hl [1, 2, 3, 4, 5, 0] rfl)
        · skip
          refine r_aload_n C dX2_leaveAsKnown_25 hl 0 rfl ?_
          refine r_get (v := .ref (ad 2)) C f_X2_32 hW.1 0 rfl rfl dX2_leaveAsKnown_26 ?_
          refine r_iload C dX2_leaveAsKnown_29 hl 4 rfl ?_
          refine r_bipush (z := 8) C dX2_leaveAsKnown_31 rfl ?_
          refine r_imul C dX2_leaveAsKnown_33 ?_
          refine r_iload C dX2_leaveAsKnown_34 hl 5 rfl ?_
          refine r_iadd C dX2_leaveAsKnown_36 ?_
          refine r_iald (f := t_placeOf X) C hW.1 3 rfl (Nat.le_of_ble_eq_true rfl) (by omega) dX2_leaveAsKnown_37 ?_
          have hr5 := hXo_placeOf ((ec * 8) + f) (by omega) (by omega)
          refine r_istore C [(6, .int (iI (t_placeOf X ((ec * 8) + f)))), (0, .ref (o)), (1, .ref (po)), (2, .int (iI (x))), (3, .int (iI (e))), (4, .int (iI (ec))), (5, .int (iI (f)))] dX2_leaveAsKnown_38 hl (by decide) rfl (fun ls hl => ?_)
          refine r_aload_n C dX2_leaveAsKnown_40 hl 1 rfl ?_
          refine r_aload_n C dX2_leaveAsKnown_41 hl 2 rfl ?_
          refine r_aload_n C dX2_leaveAsKnown_42 hl 1 rfl ?_
          refine r_aload_n C dX2_leaveAsKnown_43 hl 2 rfl ?_
          refine r_iload_n C dX2_leaveAsKnown_44 hl 3 rfl ?_
          refine r_iload_n C dX2_leaveAsKnown_45 hl 4 rfl ?_
          refine r_callR (rest := [.ref (po), .ref (o)]) (r := .int (iI ((p_to P) e * 8 + (t_keys X) x / 8 % 8))) C hl.1 (c_X2_landing l g o ad X po pa P x e (by assumption) (by assumption) (show 0 ≤ x ∧ x < 1536 by omega) (show 0 ≤ e ∧ e < 32 by omega)) v_X2_105 rfl hW.1 0 rfl rfl rfl (by decide) (by decide) (Nat.le_of_ble_eq_true rfl) dX2_leaveAsKnown_46 rfl ?_
          have hq6 := tLand_q P X x e (by assumption) (by assumption) (by omega) (by omega)
          refine r_aload_n C dX2_leaveAsKnown_49 hl 2 rfl ?_
          refine r_iload_n C dX2_leaveAsKnown_50 hl 4 rfl ?_
          refine r_iconst (z := 2) C dX2_leaveAsKnown_51 rfl ?_
          refine r_iload C dX2_leaveAsKnown_52 hl 6 rfl ?_
          refine r_callR (rest := [.int (iI ((p_to P) e * 8 + (t_keys X) x / 8 % 8)), .ref (po), .ref (o)]) (r := .int (iI (pReach P e 2 f))) C hl.1 (c_X0_reach l g po pa P e 2 f (show 0 ≤ e ∧ e < 32 by omega) (show 0 ≤ 2 ∧ 2 < 3 by omega) (show 0 ≤ f ∧ f < 8 by omega)) v_X2_109 rfl (hW.1.sub [9, 10, 11, 12, 13, 14, 15, 16, 17] rfl) 0 rfl rfl rfl (by decide) (by decide) (Nat.le_of_ble_eq_true rfl) dX2_leaveAsKnown_54 rfl ?_
          have hq7 := pReach_r P e 2 f
          refine r_iload_n C dX2_leaveAsKnown_57 hl 3 rfl ?_
          refine r_iload C dX2_leaveAsKnown_58 hl 0 rfl ?_
          refine r_callW (rest := []) (r := none) (wr := []) (ws2 := tW g o ad (tCome P ((p_to P) e * 8 + (t_keys X) x / 8 % 8) (pReach P e 2 f) x (t_placeOf X ((ec * 8) + f)) X) ++ pW g po pa P) (st1 := []) C hl.1 hW hA (c_X2_come l g o ad X po pa P ((p_to P) e * 8 + (t_keys X) x / 8 % 8) (pReach P e 2 f) x (t_placeOf X ((ec * 8) + f)) (by assumption) (by assumption) (show 0 ≤ ((p_to P) e * 8 + (t_keys X) x / 8 % 8) ∧ ((p_to P) e * 8 + (t_keys X) x / 8 % 8) < 192 by omega) (show 0 ≤ (pReach P e 2 f) ∧ (pReach P e 2 f) < 256 by omega) (show -1 ≤ x ∧ x < 1536 by omega) (show -1 ≤ (t_placeOf X ((ec * 8) + f)) ∧ (t_placeOf X ((ec * 8) + f)) < 1536 by omega)) v_X2_66 rfl [0, 1, 2, 3, 4, 5, 6, 7, 8, 9, 10, 11, 12, 13, 14, 15, 16, 17] [] [0, 1, 2, 3, 4, 5, 6, 7, 8, 9, 10, 11, 12, 13, 14, 15, 16, 17] rfl rfl (by decide) (by decide) rfl rfl 0 rfl rfl rfl (by decide) (by decide) (Nat.le_of_ble_eq_true rfl) dX2_leaveAsKnown_60 rfl rfl (fun H locs hW => ?_)
          have hok8 : tOk (tCome P ((p_to P) e * 8 + (t_keys X) x / 8 % 8) (pReach P e 2 f) x (t_placeOf X ((ec * 8) + f)) X) := tCome_ok (by assumption) (by omega) (by omega) (by omega) (by omega)
          refine r_iinc (v := f + 1) C [(5, .int (iI (f + 1))), (6, .int (iI (t_placeOf X ((ec * 8) + f)))), (0, .ref (o)), (1, .ref (po)), (2, .int (iI (x))), (3, .int (iI (e))), (4, .int (iI (ec)))] dX2_leaveAsKnown_63 hl 6 rfl (by decide) (by omega) rfl (fun ls hl => ?_)
          refine r_goto C 3 dX2_leaveAsKnown_66 (by decide) ?_
          have hE : tLeaveF P x e ec f X = tCome P ((p_to P) e * 8 + (t_keys X) x / 8 % 8) (pReach P e 2 f) x (t_placeOf X ((ec * 8) + f)) X := if_pos hc4
          exact ih3 _ (tCome P ((p_to P) e * 8 + (t_keys X) x / 8 % 8) (pReach P e 2 f) x (t_placeOf X ((ec * 8) + f)) X) (by omega) (by omega) (by rw [← hE]; exact tLeaveF_ok hP hXo (by omega) (by omega) (by omega) (by omega)) (by rw [hq, it_s, hE]) _ _ ls hW (lv_sub hl [2, 3, 4, 5, 6, 0] rfl)
  exact hloop3 8 0 _ (by omega) (by omega) (by assumption) rfl _ _ ls hW (lv_sub hl [1, 2, 3, 4, 5, 0] rfl)
set_option maxHeartbeats 4000000 in
set_option maxRecDepth 100000 in
theorem c_X2_enter (l : Launch) (g : GG) (o : Nat) (ad : Nat → Nat) (T : Tb) (po : Nat) (pa : Nat → Nat) (P : Pg) (x e : Int) (hT : tOk T) (hP : pOk P) (hx : 0 ≤ x ∧ x < 1536) (he : 0 ≤ e ∧ e < 32) (hq5 : 0 ≤ p_callee P e) : MW l g yX2_enter cX2_enter 7 none 3 98 [.ref (o), .ref (po), .int (iI (x)), .int (iI (e))] (tW g o ad T ++ pW g po pa P) (tW g o ad (tEnter P x e T) ++ pW g po pa P) none := by
  refine MW_start (by decide) (Nat.le_of_ble_eq_true rfl) ?_
  intro zp ze zs zm zb zt zc A hAe C hrt hlk hW ls hl
  have hA : ∀ q, zs.heap.size ≤ q → A q := fun q h => by rw [hAe]; exact Or.inr h
  have hl : lv_has ls 7 [(0, .ref (o)), (1, .ref (po)), (2, .int (iI (x))), (3, .int (iI (e)))] := hl
  obtain ⟨hT_ready, hT_seedProc, hT_seedFacts, hT_size, hT_seen, hT_keys, hT_placeOf, hT_before, hT_through, hT_way, hT_inner, hT_sites, hT_siteCount⟩ := id hT
  obtain ⟨hP_procs, hP_nodes, hP_edges, hP_start, hP_entryOf, hP_exitOf, hP_procOf, hP_kindOf, hP_from, hP_to, hP_callee⟩ := id hP
  refine r_aload_n C dX2_enter_0 hl 0 rfl ?_
  refine r_iload_n C dX2_enter_1 hl 2 rfl ?_
  refine r_iload_n C dX2_enter_2 hl 3 rfl ?_
  refine r_callW (rest := []) (r := none) (wr := pW g po pa P) (ws2 := tW g o ad (tNote x e T) ++ pW g po pa P) (st1 := []) C hl.1 hW hA (c_X2_noteSite l g o ad T x e (by assumption) (show 0 ≤ x ∧ x < 1536 by omega) (show 0 ≤ e ∧ e < 32 by omega)) v_X2_119 rfl [0, 1, 2, 3, 4, 5, 6, 7, 8] [9, 10, 11, 12, 13, 14, 15, 16, 17] [9, 10, 11, 12, 13, 14, 15, 16, 17, 0, 1, 2, 3, 4, 5, 6, 7, 8] rfl rfl (by decide) (by decide) rfl rfl 0 rfl rfl rfl (by decide) (by decide) (Nat.le_of_ble_eq_true rfl) dX2_enter_3 rfl rfl (fun H locs hW => ?_)
  have hok1 : tOk (tNote x e T) := tNote_ok (by assumption) (by omega) (by omega)
  refine r_aload_n C dX2_enter_6 hl 1 rfl ?_
  refine r_iload_n C dX2_enter_7 hl 3 rfl ?_
  refine r_iconst (z := 1) C dX2_enter_8 rfl ?_
  refine r_aload_n C dX2_enter_9 hl 0 rfl ?_
  refine r_iload_n C dX2_enter_10 hl 2 rfl ?_
  refine r_callR (rest := [.int (iI (1)), .int (iI (e)), .ref (po)]) (r := .int (iI ((t_keys (tNote x e T)) x % 8))) C hl.1 (c_X2_factOf l g o ad (tNote x e T) x (by assumption) (show 0 ≤ x ∧ x < 1536 by omega)) v_X2_83 rfl (hW.1.sub [0, 1, 2, 3, 4, 5, 6, 7, 8] rfl) 0 rfl rfl rfl (by decide) (by decide) (Nat.le_of_ble_eq_true rfl) dX2_enter_11 rfl ?_
  have hq2 := tKeys_q (tNote x e T) x (by assumption) (by omega)
  refine r_callR (rest := []) (r := .int (iI (pReach P e 1 ((t_keys (tNote x e T)) x % 8)))) C hl.1 (c_X0_reach l g po pa P e 1 ((t_keys (tNote x e T)) x % 8) (show 0 ≤ e ∧ e < 32 by omega) (show 0 ≤ 1 ∧ 1 < 3 by omega) (show 0 ≤ ((t_keys (tNote x e T)) x % 8) ∧ ((t_keys (tNote x e T)) x % 8) < 8 by omega)) v_X2_109 rfl (hW.1.sub [9, 10, 11, 12, 13, 14, 15, 16, 17] rfl) 0 rfl rfl rfl (by decide) (by decide) (Nat.le_of_ble_eq_true rfl) dX2_enter_14 rfl ?_
  have hq3 := pReach_r P e 1 ((t_keys (tNote x e T)) x % 8)
  refine r_istore C [(4, .int (iI (pReach P e 1 ((t_keys (tNote x e T)) x % 8)))), (0, .ref (o)), (1, .ref (po)), (2, .int (iI (x))), (3, .int (iI (e)))] dX2_enter_17 hl (by decide) rfl (fun ls hl => ?_)
  refine r_aload_n C dX2_enter_19 hl 2 rfl ?_
  refine r_get (v := .ref (pa 6)) C f_X2_98 hW.1 9 rfl rfl dX2_enter_20 ?_
  refine r_iload_n C dX2_enter_23 hl 4 rfl ?_
  refine r_iald (f := p_callee P) C hW.1 16 rfl (Nat.le_of_ble_eq_true rfl) (by omega) dX2_enter_24 ?_
  have hr4 := hP_callee e (by omega) (by omega)
  refine r_istore C [(5, .int (iI (p_callee P e))), (4, .int (iI (pReach P e 1 ((t_keys (tNote x e T)) x % 8)))), (0, .ref (o)), (1, .ref (po)), (2, .int (iI (x))), (3, .int (iI (e)))] dX2_enter_25 hl (by decide) rfl (fun ls hl => ?_)
  refine r_iconst (z := 0) C dX2_enter_27 rfl ?_
  refine r_istore C [(6, .int (iI (0))), (5, .int (iI (p_callee P e))), (4, .int (iI (pReach P e 1 ((t_keys (tNote x e T)) x % 8)))), (0, .ref (o)), (1, .ref (po)), (2, .int (iI (x))), (3, .int (iI (e)))] dX2_enter_28 hl (by decide) rfl (fun ls hl => ?_)
  have hloop30 : ∀ (k30 : Nat) (c : Int) (X : Tb) (hkk : c + k30 = 8) (hc : 0 ≤ c) (hXo : tOk X) (hq : tEnter P x e T = it (tEnterF P x e (pReach P e 1 (t_keys (tNote x e T) x % 8))) k30 c X) (H : Heap) (locs : List Loc) (ls : Array Slot), HW g A zs.heap (tW g o ad X ++ pW g po pa P) H locs → lv_has ls 7 [(0, .ref (o)), (1, .ref (po)), (2, .int (iI (x))), (3, .int (iI (e))), (4, .int (iI (pReach P e 1 ((t_keys (tNote x e T)) x % 8)))), (5, .int (iI (p_callee P e))), (6, .int (iI (c)))] → W zp l ze (rmm 3 98) zs zm (List.toArray [.ref (o), .ref (po), .int (iI (x)), .int (iI (e))]) zb zt zc H locs 0 0 (MQ zb (QW g (tW g o ad T ++ pW g po pa P) (tW g o ad (tEnter P x e T) ++ pW g po pa P) zs.heap.size none) (List.toArray [.ref (o), .ref (po), .int (iI (x)), .int (iI (e))]) zs 0 0 A) (F0 zm 30 ls []) := by
    intro k30
    induction k30 with
    | zero =>
      intro c X hkk hc hXo hq H locs ls hW hl
      obtain ⟨hXo_ready, hXo_seedProc, hXo_seedFacts, hXo_size, hXo_seen, hXo_keys, hXo_placeOf, hXo_before, hXo_through, hXo_way, hXo_inner, hXo_sites, hXo_siteCount⟩ := id hXo
      refine r_iload C dX2_enter_30 hl 6 rfl ?_
      refine r_bipush (z := 8) C dX2_enter_32 rfl ?_
      refine r_icmp_ge C 95 dX2_enter_34 (by decide) (by omega) (by omega) (fun hc5 => ?_) (fun hc5 => ?_)
      · skip
        have hE : tEnter P x e T = X := by rw [hq]; rfl
        exact MW_vret C hAe hrt hlk hW dX2_enter_95 rfl (by rw [hE])
      · exact absurd hc5 (by omega)
    | succ k30 ih30 =>
      intro c X hkk hc hXo hq H locs ls hW hl
      obtain ⟨hXo_ready, hXo_seedProc, hXo_seedFacts, hXo_size, hXo_seen, hXo_keys, hXo_placeOf, hXo_before, hXo_through, hXo_way, hXo_inner, hXo_sites, hXo_siteCount⟩ := id hXo
      refine r_iload C dX2_enter_30 hl 6 rfl ?_
      refine r_bipush (z := 8) C dX2_enter_32 rfl ?_
      refine r_icmp_ge C 95 dX2_enter_34 (by decide) (by omega) (by omega) (fun hc6 => ?_) (fun hc6 => ?_)
      · exact absurd hc6 (by omega)
      · skip
        refine r_iload C dX2_enter_37 hl 4 rfl ?_
        refine r_iload C dX2_enter_39 hl 6 rfl ?_
        refine r_callRN (rest := []) (r := .int (iI (bI (tb (pReach P e 1 ((t_keys (tNote x e T)) x % 8)) c = true)))) C hl.1 (c_X4_has l g  (pReach P e 1 ((t_keys (tNote x e T)) x % 8)) c (show 0 ≤ (pReach P e 1 ((t_keys (tNote x e T)) x % 8)) ∧ (pReach P e 1 ((t_keys (tNote x e T)) x % 8)) < 2147483648 by omega) (show 0 ≤ c ∧ c < 31 by omega)) v_X2_53 rfl (fun k q h => by simp at h) (by decide) (by decide) (Nat.le_of_ble_eq_true rfl) dX2_enter_41 rfl ?_
        refine r_ifb_eq C 89 dX2_enter_44 (by decide) (fun hc7 => ?_) (fun hc7 => ?_)
        · skip
          refine r_iinc (v := c + 1) C [(6, .int (iI (c + 1))), (0, .ref (o)), (1, .ref (po)), (2, .int (iI (x))), (3, .int (iI (e))), (4, .int (iI (pReach P e 1 ((t_keys (tNote x e T)) x % 8)))), (5, .int (iI (p_callee P e)))] dX2_enter_89 hl 6 rfl (by decide) (by omega) rfl (fun ls hl => ?_)
          refine r_goto C 30 dX2_enter_92 (by decide) ?_
          have hE : tEnterF P x e (pReach P e 1 (t_keys (tNote x e T) x % 8)) c X = X := if_neg hc7
          exact ih30 _ (X) (by omega) (by omega) (by rw [← hE]; exact tEnterF_ok hP hXo (by omega) (by omega) (by omega) (by omega)) (by rw [hq, it_s, hE]) _ _ ls hW (lv_sub hl [1, 2, 3, 4, 5, 6, 0] rfl)
        · skip
          refine r_aload_n C dX2_enter_47 hl 0 rfl ?_
          refine r_aload_n C dX2_enter_48 hl 1 rfl ?_
          refine r_aload_n C dX2_enter_49 hl 1 rfl ?_
          refine r_get (v := .ref (pa 0)) C f_X2_57 hW.1 9 rfl rfl dX2_enter_50 ?_
          refine r_iload C dX2_enter_53 hl 5 rfl ?_
          refine r_iald (f := p_entryOf P) C hW.1 10 rfl (Nat.le_of_ble_eq_true rfl) (by omega) dX2_enter_55 ?_
          have hr8 := hP_entryOf (p_callee P e) (by omega) (by omega)
          refine r_iload C dX2_enter_56 hl 6 rfl ?_
          refine r_callRN (rest := [.ref (po), .ref (o)]) (r := .int (iI ((p_entryOf P (p_callee P e)) * 8 + c))) C hl.1 (c_X4_cell l g  (p_entryOf P (p_callee P e)) c) v_X2_62 rfl (fun k q h => by simp at h) (by decide) (by decide) (Nat.le_of_ble_eq_true rfl) dX2_enter_58 rfl ?_
          refine r_iconst (z := 1) C dX2_enter_61 rfl ?_
          refine r_iload C dX2_enter_62 hl 6 rfl ?_
          refine r_ishl1 C (by omega) (by omega) dX2_enter_64 ?_
          have hb9 := p2_0 c
          have hb10 : p2 c < 256 := p2_8 (by omega)
          refine r_iload_n C dX2_enter_65 hl 2 rfl ?_
          refine r_iconst (z := -1) C dX2_enter_66 rfl ?_
          refine r_callW (rest := []) (r := none) (wr := []) (ws2 := tW g o ad (tCome P ((p_entryOf P (p_callee P e)) * 8 + c) (p2 c) x (-1) X) ++ pW g po pa P) (st1 := []) C hl.1 hW hA (c_X2_come l g o ad X po pa P ((p_entryOf P (p_callee P e)) * 8 + c) (p2 c) x (-1) (by assumption) (by assumption) (show 0 ≤ ((p_entryOf P (p_callee P e)) * 8 + c) ∧ ((p_entryOf P (p_callee P e)) * 8 + c) < 192 by omega) (show 0 ≤ (p2 c) ∧ (p2 c) < 256 by omega) (show -1 ≤ x ∧ x < 1536 by omega) (show -1 ≤ (-1) ∧ (-1) < 1536 by omega)) v_X2_66 rfl [0, 1, 2, 3, 4, 5, 6, 7, 8, 9, 10, 11, 12, 13, 14, 15, 16, 17] [] [0, 1, 2, 3, 4, 5, 6, 7, 8, 9, 10, 11, 12, 13, 14, 15, 16, 17] rfl rfl (by decide) (by decide) rfl rfl 0 rfl rfl rfl (by decide) (by decide) (Nat.le_of_ble_eq_true rfl) dX2_enter_67 rfl rfl (fun H locs hW => ?_)
          have hok11 : tOk (tCome P ((p_entryOf P (p_callee P e)) * 8 + c) (p2 c) x (-1) X) := tCome_ok (by assumption) (by omega) (by omega) (by omega) (by omega)
          refine r_aload_n C dX2_enter_70 hl 0 rfl ?_
          refine r_aload_n C dX2_enter_71 hl 1 rfl ?_
          refine r_iload_n C dX2_enter_72 hl 2 rfl ?_
          refine r_iload_n C dX2_enter_73 hl 3 rfl ?_
          refine r_aload_n C dX2_enter_74 hl 1 rfl ?_
          refine r_get (v := .ref (pa 1)) C f_X2_123 hW.1 9 rfl rfl dX2_enter_75 ?_
          refine r_iload C dX2_enter_78 hl 5 rfl ?_
          refine r_iald (f := p_exitOf P) C hW.1 11 rfl (Nat.le_of_ble_eq_true rfl) (by omega) dX2_enter_80 ?_
          have hr12 := hP_exitOf (p_callee P e) (by omega) (by omega)
          refine r_iload C dX2_enter_81 hl 6 rfl ?_
          refine r_callRN (rest := [.int (iI (e)), .int (iI (x)), .ref (po), .ref (o)]) (r := .int (iI ((p_exitOf P (p_callee P e)) * 8 + c))) C hl.1 (c_X4_cell l g  (p_exitOf P (p_callee P e)) c) v_X2_62 rfl (fun k q h => by simp at h) (by decide) (by decide) (Nat.le_of_ble_eq_true rfl) dX2_enter_83 rfl ?_
          refine r_callW (rest := []) (r := none) (wr := []) (ws2 := tW g o ad (tLeave P x e ((p_exitOf P (p_callee P e)) * 8 + c) (tCome P ((p_entryOf P (p_callee P e)) * 8 + c) (p2 c) x (-1) X)) ++ pW g po pa P) (st1 := []) C hl.1 hW hA (c_X2_leaveAsKnown l g o ad (tCome P ((p_entryOf P (p_callee P e)) * 8 + c) (p2 c) x (-1) X) po pa P x e ((p_exitOf P (p_callee P e)) * 8 + c) (by assumption) (by assumption) (show 0 ≤ x ∧ x < 1536 by omega) (show 0 ≤ e ∧ e < 32 by omega) (show 0 ≤ ((p_exitOf P (p_callee P e)) * 8 + c) ∧ ((p_exitOf P (p_callee P e)) * 8 + c) < 192 by omega)) v_X2_126 rfl [0, 1, 2, 3, 4, 5, 6, 7, 8, 9, 10, 11, 12, 13, 14, 15, 16, 17] [] [0, 1, 2, 3, 4, 5, 6, 7, 8, 9, 10, 11, 12, 13, 14, 15, 16, 17] rfl rfl (by decide) (by decide) rfl rfl 0 rfl rfl rfl (by decide) (by decide) (Nat.le_of_ble_eq_true rfl) dX2_enter_86 rfl rfl (fun H locs hW => ?_)
          have hok13 : tOk (tLeave P x e ((p_exitOf P (p_callee P e)) * 8 + c) (tCome P ((p_entryOf P (p_callee P e)) * 8 + c) (p2 c) x (-1) X)) := tLeave_ok (by assumption) (by assumption) (by omega) (by omega) (by omega)
          refine r_iinc (v := c + 1) C [(6, .int (iI (c + 1))), (0, .ref (o)), (1, .ref (po)), (2, .int (iI (x))), (3, .int (iI (e))), (4, .int (iI (pReach P e 1 ((t_keys (tNote x e T)) x % 8)))), (5, .int (iI (p_callee P e)))] dX2_enter_89 hl 6 rfl (by decide) (by omega) rfl (fun ls hl => ?_)
          refine r_goto C 30 dX2_enter_92 (by decide) ?_
          have hE : tEnterF P x e (pReach P e 1 (t_keys (tNote x e T) x % 8)) c X = tLeave P x e ((p_exitOf P (p_callee P e)) * 8 + c) (tCome P ((p_entryOf P (p_callee P e)) * 8 + c) (p2 c) x (-1) X) := if_pos hc7
          exact ih30 _ (tLeave P x e ((p_exitOf P (p_callee P e)) * 8 + c) (tCome P ((p_entryOf P (p_callee P e)) * 8 + c) (p2 c) x (-1) X)) (by omega) (by omega) (by rw [← hE]; exact tEnterF_ok hP hXo (by omega) (by omega) (by omega) (by omega)) (by rw [hq, it_s, hE]) _ _ ls hW (lv_sub hl [1, 2, 3, 4, 5, 6, 0] rfl)
  exact hloop30 8 0 _ (by omega) (by omega) (by assumption) rfl _ _ ls hW (lv_sub hl [3, 4, 5, 6, 2, 1, 0] rfl)
set_option maxHeartbeats 4000000 in
set_option maxRecDepth 100000 in
theorem c_X2_returnToCallers (l : Launch) (g : GG) (o : Nat) (ad : Nat → Nat) (T : Tb) (po : Nat) (pa : Nat → Nat) (P : Pg) (z : Int) (hT : tOk T) (hP : pOk P) (hz : 0 ≤ z ∧ z < 1536) : MW l g yX2_returnToCallers cX2_returnToCallers 8 none 2 72 [.ref (o), .ref (po), .int (iI (z))] (tW g o ad T ++ pW g po pa P) (tW g o ad (tRet P z T) ++ pW g po pa P) none := by
  refine MW_start (by decide) (Nat.le_of_ble_eq_true rfl) ?_
  intro zp ze zs zm zb zt zc A hAe C hrt hlk hW ls hl
  have hA : ∀ q, zs.heap.size ≤ q → A q := fun q h => by rw [hAe]; exact Or.inr h
  have hl : lv_has ls 8 [(0, .ref (o)), (1, .ref (po)), (2, .int (iI (z)))] := hl
  obtain ⟨hT_ready, hT_seedProc, hT_seedFacts, hT_size, hT_seen, hT_keys, hT_placeOf, hT_before, hT_through, hT_way, hT_inner, hT_sites, hT_siteCount⟩ := id hT
  obtain ⟨hP_procs, hP_nodes, hP_edges, hP_start, hP_entryOf, hP_exitOf, hP_procOf, hP_kindOf, hP_from, hP_to, hP_callee⟩ := id hP
  refine r_aload_n C dX2_returnToCallers_0 hl 1 rfl ?_
  refine r_get (v := .ref (pa 2)) C f_X2_130 hW.1 9 rfl rfl dX2_returnToCallers_1 ?_
  refine r_aload_n C dX2_returnToCallers_4 hl 0 rfl ?_
  refine r_iload_n C dX2_returnToCallers_5 hl 2 rfl ?_
  refine r_callR (rest := [.ref (pa 2)]) (r := .int (iI ((t_keys T) z / 64))) C hl.1 (c_X2_nodeOf l g o ad T z (by assumption) (show 0 ≤ z ∧ z < 1536 by omega)) v_X2_79 rfl (hW.1.sub [0, 1, 2, 3, 4, 5, 6, 7, 8] rfl) 0 rfl rfl rfl (by decide) (by decide) (Nat.le_of_ble_eq_true rfl) dX2_returnToCallers_6 rfl ?_
  have hq1 := tKeys_q T z (by assumption) (by omega)
  refine r_iald (f := p_procOf P) C hW.1 12 rfl (Nat.le_of_ble_eq_true rfl) (by omega) dX2_returnToCallers_9 ?_
  have hr2 := hP_procOf ((t_keys T) z / 64) (by omega) (by omega)
  refine r_istore_n C [(3, .int (iI (p_procOf P ((t_keys T) z / 64)))), (0, .ref (o)), (1, .ref (po)), (2, .int (iI (z)))] dX2_returnToCallers_10 hl (by decide) rfl (fun ls hl => ?_)
  refine r_aload_n C dX2_returnToCallers_11 hl 1 rfl ?_
  refine r_iload_n C dX2_returnToCallers_12 hl 3 rfl ?_
  refine r_callR (rest := []) (r := .int (iI ((t_keys T) z / 8 % 8))) C hl.1 (c_X2_factAtEntry l g o ad T z (by assumption) (show 0 ≤ z ∧ z < 1536 by omega)) v_X2_116 rfl (hW.1.sub [0, 1, 2, 3, 4, 5, 6, 7, 8] rfl) 0 rfl rfl rfl (by decide) (by decide) (Nat.le_of_ble_eq_true rfl) dX2_returnToCallers_13 rfl ?_
  have hq3 := tKeys_q T z (by assumption) (by omega)
  refine r_istore C [(4, .int (iI ((t_keys T) z / 8 % 8))), (3, .int (iI (p_procOf P ((t_keys T) z / 64)))), (0, .ref (o)), (1, .ref (po)), (2, .int (iI (z)))] dX2_returnToCallers_16 hl (by decide) rfl (fun ls hl => ?_)
  refine r_iconst (z := 0) C dX2_returnToCallers_18 rfl ?_
  refine r_istore C [(5, .int (iI (0))), (4, .int (iI ((t_keys T) z / 8 % 8))), (3, .int (iI (p_procOf P ((t_keys T) z / 64)))), (0, .ref (o)), (1, .ref (po)), (2, .int (iI (z)))] dX2_returnToCallers_19 hl (by decide) rfl (fun ls hl => ?_)
  have hloop21 : ∀ (k21 : Nat) (i : Int) (X : Tb) (hkk : i + k21 = t_siteCount T) (hi : 0 ≤ i) (hsc : t_siteCount X = t_siteCount T) (hXo : tOk X) (hq : tRet P z T = it (tRetF P (p_procOf P (t_keys T z / 64)) (t_keys T z / 8 % 8) z) k21 i X) (H : Heap) (locs : List Loc) (ls : Array Slot), HW g A zs.heap (tW g o ad X ++ pW g po pa P) H locs → lv_has ls 8 [(0, .ref (o)), (1, .ref (po)), (2, .int (iI (z))), (3, .int (iI (p_procOf P ((t_keys T) z / 64)))), (4, .int (iI ((t_keys T) z / 8 % 8))), (5, .int (iI (i)))] → W zp l ze (rmm 2 72) zs zm (List.toArray [.ref (o), .ref (po), .int (iI (z))]) zb zt zc H locs 0 0 (MQ zb (QW g (tW g o ad T ++ pW g po pa P) (tW g o ad (tRet P z T) ++ pW g po pa P) zs.heap.size none) (List.toArray [.ref (o), .ref (po), .int (iI (z))]) zs 0 0 A) (F0 zm 21 ls []) := by
    intro k21
    induction k21 with
    | zero =>
      intro i X hkk hi hsc hXo hq H locs ls hW hl
      obtain ⟨hXo_ready, hXo_seedProc, hXo_seedFacts, hXo_size, hXo_seen, hXo_keys, hXo_placeOf, hXo_before, hXo_through, hXo_way, hXo_inner, hXo_sites, hXo_siteCount⟩ := id hXo
      refine r_iload C dX2_returnToCallers_21 hl 5 rfl ?_
      refine r_aload_n C dX2_returnToCallers_23 hl 0 rfl ?_
      refine r_get (v := .int (iI (t_siteCount X))) C f_X2_50 hW.1 0 rfl rfl dX2_returnToCallers_24 ?_
      refine r_icmp_ge C 121 dX2_returnToCallers_27 (by decide) (by omega) (by omega) (fun hc4 => ?_) (fun hc4 => ?_)
      · skip
        have hE : tRet P z T = X := by rw [hq]; rfl
        exact MW_vret C hAe hrt hlk hW dX2_returnToCallers_121 rfl (by rw [hE])
      · exact absurd hc4 (by omega)
    | succ k21 ih21 =>
      intro i X hkk hi hsc hXo hq H locs ls hW hl
      obtain ⟨hXo_ready, hXo_seedProc, hXo_seedFacts, hXo_size, hXo_seen, hXo_keys, hXo_placeOf, hXo_before, hXo_through, hXo_way, hXo_inner, hXo_sites, hXo_siteCount⟩ := id hXo
      refine r_iload C dX2_returnToCallers_21 hl 5 rfl ?_
      refine r_aload_n C dX2_returnToCallers_23 hl 0 rfl ?_
      refine r_get (v := .int (iI (t_siteCount X))) C f_X2_50 hW.1 0 rfl rfl dX2_returnToCallers_24 ?_
      refine r_icmp_ge C 121 dX2_returnToCallers_27 (by decide) (by omega) (by omega) (fun hc5 => ?_) (fun hc5 => ?_)
      · exact absurd hc5 (by omega)
      · skip
        refine r_aload_n C dX2_returnToCallers_30 hl 0 rfl ?_
        refine r_get (v := .ref (ad 7)) C f_X2_47 hW.1 0 rfl rfl dX2_returnToCallers_31 ?_
        refine r_iload C dX2_returnToCallers_34 hl 5 rfl ?_
        refine r_iald (f := t_sites X) C hW.1 8 rfl (Nat.le_of_ble_eq_true rfl) (by omega) dX2_returnToCallers_36 ?_
        have hr6 := hXo_sites i (by omega) (by omega)
        refine r_bipush (z := 32) C dX2_returnToCallers_37 rfl ?_
        refine r_idiv C (by omega) dX2_returnToCallers_39 ?_
        refine r_istore C [(6, .int (iI ((t_sites X i) / 32))), (0, .ref (o)), (1, .ref (po)), (2, .int (iI (z))), (3, .int (iI (p_procOf P ((t_keys T) z / 64)))), (4, .int (iI ((t_keys T) z / 8 % 8))), (5, .int (iI (i)))] dX2_returnToCallers_40 hl (by decide) rfl (fun ls hl => ?_)
        refine r_aload_n C dX2_returnToCallers_42 hl 1 rfl ?_
        refine r_get (v := .ref (ad 7)) C f_X2_47 hW.1 0 rfl rfl dX2_returnToCallers_43 ?_
        refine r_iload C dX2_returnToCallers_46 hl 6 rfl ?_
        refine r_iald (f := t_sites X) C hW.1 8 rfl (Nat.le_of_ble_eq_true rfl) (by omega) dX2_returnToCallers_48 ?_
        have hr7 := hXo_sites i (by omega) (by omega)
        refine r_bipush (z := 32) C dX2_returnToCallers_49 rfl ?_
        refine r_irem C (by omega) dX2_returnToCallers_51 ?_
        refine r_istore C [(7, .int (iI ((t_sites X i) % 32))), (6, .int (iI ((t_sites X i) / 32))), (0, .ref (o)), (1, .ref (po)), (2, .int (iI (z))), (3, .int (iI (p_procOf P ((t_keys T) z / 64)))), (4, .int (iI ((t_keys T) z / 8 % 8))), (5, .int (iI (i)))] dX2_returnToCallers_52 hl (by decide) rfl (fun ls hl => ?_)
        refine r_aload_n C dX2_returnToCallers_54 hl 3 rfl ?_
        refine r_get (v := .ref (pa 6)) C f_X2_98 hW.1 9 rfl rfl dX2_returnToCallers_55 ?_
        refine r_iload C dX2_returnToCallers_58 hl 0 rfl ?_
        refine r_iald (f := p_callee P) C hW.1 16 rfl (Nat.le_of_ble_eq_true rfl) (by omega) dX2_returnToCallers_60 ?_
        have hr8 := hP_callee ((t_sites X i) % 32) (by omega) (by omega)
        refine r_iload_n C dX2_returnToCallers_61 hl 5 rfl ?_
        refine r_icmp_ne C 115 dX2_returnToCallers_62 (by decide) (by omega) (by omega) (fun hc9 => ?_) (fun hc9 => ?_)
        · skip
          refine r_iinc (v := i + 1) C [(5, .int (iI (i + 1))), (7, .int (iI ((t_sites X i) % 32))), (6, .int (iI ((t_sites X i) / 32))), (0, .ref (o)), (1, .ref (po)), (2, .int (iI (z))), (3, .int (iI (p_procOf P ((t_keys T) z / 64)))), (4, .int (iI ((t_keys T) z / 8 % 8)))] dX2_returnToCallers_115 hl 7 rfl (by decide) (by omega) rfl (fun ls hl => ?_)
          refine r_goto C 21 dX2_returnToCallers_118 (by decide) ?_
          have hE : tRetF P (p_procOf P (t_keys T z / 64)) (t_keys T z / 8 % 8) z i X = X := if_neg (fun h => hc9 h.1)
          exact ih21 _ (X) (by omega) (by omega) (by rw [← hE]; exact (tRetF_sc _ _ _ _ _ _).1.trans hsc) (by rw [← hE]; exact tRetF_ok hP hXo (by omega) (by omega)) (by rw [hq, it_s, hE]) _ _ ls hW (lv_sub hl [3, 4, 5, 6, 7, 0] rfl)
        · skip
          refine r_aload_n C dX2_returnToCallers_65 hl 3 rfl ?_
          refine r_iload C dX2_returnToCallers_66 hl 0 rfl ?_
          refine r_iconst (z := 1) C dX2_returnToCallers_68 rfl ?_
          refine r_aload_n C dX2_returnToCallers_69 hl 2 rfl ?_
          refine r_iload C dX2_returnToCallers_70 hl 1 rfl ?_
          refine r_callR (rest := [.int (iI (1)), .int (iI ((t_sites X i) % 32)), .ref (po)]) (r := .int (iI ((t_keys X) ((t_sites X i) / 32) % 8))) C hl.1 (c_X2_factOf l g o ad X ((t_sites X i) / 32) (by assumption) (show 0 ≤ ((t_sites X i) / 32) ∧ ((t_sites X i) / 32) < 1536 by omega)) v_X2_83 rfl (hW.1.sub [0, 1, 2, 3, 4, 5, 6, 7, 8] rfl) 0 rfl rfl rfl (by decide) (by decide) (Nat.le_of_ble_eq_true rfl) dX2_returnToCallers_72 rfl ?_
          have hq10 := tKeys_q X ((t_sites X i) / 32) (by assumption) (by omega)
          refine r_callR (rest := []) (r := .int (iI (pReach P ((t_sites X i) % 32) 1 ((t_keys X) ((t_sites X i) / 32) % 8)))) C hl.1 (c_X0_reach l g po pa P ((t_sites X i) % 32) 1 ((t_keys X) ((t_sites X i) / 32) % 8) (show 0 ≤ ((t_sites X i) % 32) ∧ ((t_sites X i) % 32) < 32 by omega) (show 0 ≤ 1 ∧ 1 < 3 by omega) (show 0 ≤ ((t_keys X) ((t_sites X i) / 32) % 8) ∧ ((t_keys X) ((t_sites X i) / 32) % 8) < 8 by omega)) v_X2_109 rfl (hW.1.sub [9, 10, 11, 12, 13, 14, 15, 16, 17] rfl) 0 rfl rfl rfl (by decide) (by decide) (Nat.le_of_ble_eq_true rfl) dX2_returnToCallers_75 rfl ?_
          have hq11 := pReach_r P ((t_sites X i) % 32) 1 ((t_keys X) ((t_sites X i) / 32) % 8)
          refine r_iload C dX2_returnToCallers_78 hl 6 rfl ?_
          refine r_callRN (rest := []) (r := .int (iI (bI (tb (pReach P ((t_sites X i) % 32) 1 ((t_keys X) ((t_sites X i) / 32) % 8)) ((t_keys T) z / 8 % 8) = true)))) C hl.1 (c_X4_has l g  (pReach P ((t_sites X i) % 32) 1 ((t_keys X) ((t_sites X i) / 32) % 8)) ((t_keys T) z / 8 % 8) (show 0 ≤ (pReach P ((t_sites X i) % 32) 1 ((t_keys X) ((t_sites X i) / 32) % 8)) ∧ (pReach P ((t_sites X i) % 32) 1 ((t_keys X) ((t_sites X i) / 32) % 8)) < 2147483648 by omega) (show 0 ≤ ((t_keys T) z / 8 % 8) ∧ ((t_keys T) z / 8 % 8) < 31 by omega)) v_X2_53 rfl (fun k q h => by simp at h) (by decide) (by decide) (Nat.le_of_ble_eq_true rfl) dX2_returnToCallers_80 rfl ?_
          refine r_ifb_eq C 115 dX2_returnToCallers_83 (by decide) (fun hc12 => ?_) (fun hc12 => ?_)
          · skip
            refine r_iinc (v := i + 1) C [(5, .int (iI (i + 1))), (7, .int (iI ((t_sites X i) % 32))), (6, .int (iI ((t_sites X i) / 32))), (0, .ref (o)), (1, .ref (po)), (2, .int (iI (z))), (3, .int (iI (p_procOf P ((t_keys T) z / 64)))), (4, .int (iI ((t_keys T) z / 8 % 8)))] dX2_returnToCallers_115 hl 7 rfl (by decide) (by omega) rfl (fun ls hl => ?_)
            refine r_goto C 21 dX2_returnToCallers_118 (by decide) ?_
            have hE : tRetF P (p_procOf P (t_keys T z / 64)) (t_keys T z / 8 % 8) z i X = X := if_neg (fun h => hc12 h.2)
            exact ih21 _ (X) (by omega) (by omega) (by rw [← hE]; exact (tRetF_sc _ _ _ _ _ _).1.trans hsc) (by rw [← hE]; exact tRetF_ok hP hXo (by omega) (by omega)) (by rw [hq, it_s, hE]) _ _ ls hW (lv_sub hl [3, 4, 5, 6, 7, 0] rfl)
          · skip
            refine r_aload_n C dX2_returnToCallers_86 hl 2 rfl ?_
            refine r_aload_n C dX2_returnToCallers_87 hl 3 rfl ?_
            refine r_aload_n C dX2_returnToCallers_88 hl 2 rfl ?_
            refine r_aload_n C dX2_returnToCallers_89 hl 3 rfl ?_
            refine r_iload C dX2_returnToCallers_90 hl 1 rfl ?_
            refine r_iload C dX2_returnToCallers_92 hl 0 rfl ?_
            refine r_callR (rest := [.ref (po), .ref (o)]) (r := .int (iI ((p_to P) ((t_sites X i) % 32) * 8 + (t_keys X) ((t_sites X i) / 32) / 8 % 8))) C hl.1 (c_X2_landing l g o ad X po pa P ((t_sites X i) / 32) ((t_sites X i) % 32) (by assumption) (by assumption) (show 0 ≤ ((t_sites X i) / 32) ∧ ((t_sites X i) / 32) < 1536 by omega) (show 0 ≤ ((t_sites X i) % 32) ∧ ((t_sites X i) % 32) < 32 by omega)) v_X2_105 rfl hW.1 0 rfl rfl rfl (by decide) (by decide) (Nat.le_of_ble_eq_true rfl) dX2_returnToCallers_94 rfl ?_
            have hq13 := tLand_q P X ((t_sites X i) / 32) ((t_sites X i) % 32) (by assumption) (by assumption) (by omega) (by omega)
            refine r_aload_n C dX2_returnToCallers_97 hl 3 rfl ?_
            refine r_iload C dX2_returnToCallers_98 hl 0 rfl ?_
            refine r_iconst (z := 2) C dX2_returnToCallers_100 rfl ?_
            refine r_aload_n C dX2_returnToCallers_101 hl 2 rfl ?_
            refine r_iload_n C dX2_returnToCallers_102 hl 4 rfl ?_
            refine r_callR (rest := [.int (iI (2)), .int (iI ((t_sites X i) % 32)), .ref (po), .int (iI ((p_to P) ((t_sites X i) % 32) * 8 + (t_keys X) ((t_sites X i) / 32) / 8 % 8)), .ref (po), .ref (o)]) (r := .int (iI ((t_keys X) z % 8))) C hl.1 (c_X2_factOf l g o ad X z (by assumption) (show 0 ≤ z ∧ z < 1536 by omega)) v_X2_83 rfl (hW.1.sub [0, 1, 2, 3, 4, 5, 6, 7, 8] rfl) 0 rfl rfl rfl (by decide) (by decide) (Nat.le_of_ble_eq_true rfl) dX2_returnToCallers_103 rfl ?_
            have hq14 := tKeys_q X z (by assumption) (by omega)
            refine r_callR (rest := [.int (iI ((p_to P) ((t_sites X i) % 32) * 8 + (t_keys X) ((t_sites X i) / 32) / 8 % 8)), .ref (po), .ref (o)]) (r := .int (iI (pReach P ((t_sites X i) % 32) 2 ((t_keys X) z % 8)))) C hl.1 (c_X0_reach l g po pa P ((t_sites X i) % 32) 2 ((t_keys X) z % 8) (show 0 ≤ ((t_sites X i) % 32) ∧ ((t_sites X i) % 32) < 32 by omega) (show 0 ≤ 2 ∧ 2 < 3 by omega) (show 0 ≤ ((t_keys X) z % 8) ∧ ((t_keys X) z % 8) < 8 by omega)) v_X2_109 rfl (hW.1.sub [9, 10, 11, 12, 13, 14, 15, 16, 17] rfl) 0 rfl rfl rfl (by decide) (by decide) (Nat.le_of_ble_eq_true rfl) dX2_returnToCallers_106 rfl ?_
            have hq15 := pReach_r P ((t_sites X i) % 32) 2 ((t_keys X) z % 8)
            refine r_iload C dX2_returnToCallers_109 hl 1 rfl ?_
            refine r_iload_n C dX2_returnToCallers_111 hl 4 rfl ?_
            refine r_callW (rest := []) (r := none) (wr := []) (ws2 := tW g o ad (tCome P ((p_to P) ((t_sites X i) % 32) * 8 + (t_keys X) ((t_sites X i) / 32) / 8 % 8) (pReach P ((t_sites X i) % 32) 2 ((t_keys X) z % 8)) ((t_sites X i) / 32) z X) ++ pW g po pa P) (st1 := []) C hl.1 hW hA (c_X2_come l g o ad X po pa P ((p_to P) ((t_sites X i) % 32) * 8 + (t_keys X) ((t_sites X i) / 32) / 8 % 8) (pReach P ((t_sites X i) % 32) 2 ((t_keys X) z % 8)) ((t_sites X i) / 32) z (by assumption) (by assumption) (show 0 ≤ ((p_to P) ((t_sites X i) % 32) * 8 + (t_keys X) ((t_sites X i) / 32) / 8 % 8) ∧ ((p_to P) ((t_sites X i) % 32) * 8 + (t_keys X) ((t_sites X i) / 32) / 8 % 8) < 192 by omega) (show 0 ≤ (pReach P ((t_sites X i) % 32) 2 ((t_keys X) z % 8)) ∧ (pReach P ((t_sites X i) % 32) 2 ((t_keys X) z % 8)) < 256 by omega) (show -1 ≤ ((t_sites X i) / 32) ∧ ((t_sites X i) / 32) < 1536 by omega) (show -1 ≤ z ∧ z < 1536 by omega)) v_X2_66 rfl [0, 1, 2, 3, 4, 5, 6, 7, 8, 9, 10, 11, 12, 13, 14, 15, 16, 17] [] [0, 1, 2, 3, 4, 5, 6, 7, 8, 9, 10, 11, 12, 13, 14, 15, 16, 17] rfl rfl (by decide) (by decide) rfl rfl 0 rfl rfl rfl (by decide) (by decide) (Nat.le_of_ble_eq_true rfl) dX2_returnToCallers_112 rfl rfl (fun H locs hW => ?_)
            have hok16 : tOk (tCome P ((p_to P) ((t_sites X i) % 32) * 8 + (t_keys X) ((t_sites X i) / 32) / 8 % 8) (pReach P ((t_sites X i) % 32) 2 ((t_keys X) z % 8)) ((t_sites X i) / 32) z X) := tCome_ok (by assumption) (by omega) (by omega) (by omega) (by omega)
            refine r_iinc (v := i + 1) C [(5, .int (iI (i + 1))), (7, .int (iI ((t_sites X i) % 32))), (6, .int (iI ((t_sites X i) / 32))), (0, .ref (o)), (1, .ref (po)), (2, .int (iI (z))), (3, .int (iI (p_procOf P ((t_keys T) z / 64)))), (4, .int (iI ((t_keys T) z / 8 % 8)))] dX2_returnToCallers_115 hl 7 rfl (by decide) (by omega) rfl (fun ls hl => ?_)
            refine r_goto C 21 dX2_returnToCallers_118 (by decide) ?_
            have hE : tRetF P (p_procOf P (t_keys T z / 64)) (t_keys T z / 8 % 8) z i X = tCome P ((p_to P) ((t_sites X i) % 32) * 8 + (t_keys X) ((t_sites X i) / 32) / 8 % 8) (pReach P ((t_sites X i) % 32) 2 ((t_keys X) z % 8)) ((t_sites X i) / 32) z X := if_pos ⟨hc9, hc12⟩
            exact ih21 _ (tCome P ((p_to P) ((t_sites X i) % 32) * 8 + (t_keys X) ((t_sites X i) / 32) / 8 % 8) (pReach P ((t_sites X i) % 32) 2 ((t_keys X) z % 8)) ((t_sites X i) / 32) z X) (by omega) (by omega) (by rw [← hE]; exact (tRetF_sc _ _ _ _ _ _).1.trans hsc) (by rw [← hE]; exact tRetF_ok hP hXo (by omega) (by omega)) (by rw [hq, it_s, hE]) _ _ ls hW (lv_sub hl [3, 4, 5, 6, 7, 0] rfl)
  exact hloop21 (t_siteCount T).toNat 0 _ (by omega) (by omega) rfl (by assumption) rfl _ _ ls hW (lv_sub hl [3, 4, 5, 2, 1, 0] rfl)
set_option maxHeartbeats 4000000 in
set_option maxRecDepth 100000 in
theorem c_X2_take (l : Launch) (g : GG) (o : Nat) (ad : Nat → Nat) (T : Tb) (po : Nat) (pa : Nat → Nat) (P : Pg) (x : Int) (hT : tOk T) (hP : pOk P) (hx : 0 ≤ x ∧ x < 1536) : MW l g yX2_take cX2_take 5 none 4 124 [.ref (o), .ref (po), .int (iI (x))] (tW g o ad T ++ pW g po pa P) (tW g o ad (tTake P x T) ++ pW g po pa P) none := by
  refine MW_start (by decide) (Nat.le_of_ble_eq_true rfl) ?_
  intro zp ze zs zm zb zt zc A hAe C hrt hlk hW ls hl
  have hA : ∀ q, zs.heap.size ≤ q → A q := fun q h => by rw [hAe]; exact Or.inr h
  have hl : lv_has ls 5 [(0, .ref (o)), (1, .ref (po)), (2, .int (iI (x)))] := hl
  obtain ⟨hT_ready, hT_seedProc, hT_seedFacts, hT_size, hT_seen, hT_keys, hT_placeOf, hT_before, hT_through, hT_way, hT_inner, hT_sites, hT_siteCount⟩ := id hT
  obtain ⟨hP_procs, hP_nodes, hP_edges, hP_start, hP_entryOf, hP_exitOf, hP_procOf, hP_kindOf, hP_from, hP_to, hP_callee⟩ := id hP
  refine r_aload_n C dX2_take_0 hl 0 rfl ?_
  refine r_iload_n C dX2_take_1 hl 2 rfl ?_
  refine r_callR (rest := []) (r := .int (iI ((t_keys T) x / 64))) C hl.1 (c_X2_nodeOf l g o ad T x (by assumption) (show 0 ≤ x ∧ x < 1536 by omega)) v_X2_79 rfl (hW.1.sub [0, 1, 2, 3, 4, 5, 6, 7, 8] rfl) 0 rfl rfl rfl (by decide) (by decide) (Nat.le_of_ble_eq_true rfl) dX2_take_2 rfl ?_
  have hq1 := tKeys_q T x (by assumption) (by omega)
  refine r_istore_n C [(3, .int (iI ((t_keys T) x / 64))), (0, .ref (o)), (1, .ref (po)), (2, .int (iI (x)))] dX2_take_5 hl (by decide) rfl (fun ls hl => ?_)
  refine r_aload_n C dX2_take_6 hl 2 rfl ?_
  refine r_get (v := .ref (pa 3)) C f_X2_86 hW.1 9 rfl rfl dX2_take_7 ?_
  refine r_iload_n C dX2_take_10 hl 0 rfl ?_
  refine r_iald (f := p_kindOf P) C hW.1 13 rfl (Nat.le_of_ble_eq_true rfl) (by omega) dX2_take_11 ?_
  have hr2 := hP_kindOf ((t_keys T) x / 64) (by omega) (by omega)
  refine r_iconst (z := 1) C dX2_take_12 rfl ?_
  refine r_icmp_ne C 23 dX2_take_13 (by decide) (by omega) (by omega) (fun hc3 => ?_) (fun hc3 => ?_)
  · skip
    refine r_iconst (z := 0) C dX2_take_23 rfl ?_
    refine r_istore C [(4, .int (iI (0))), (3, .int (iI ((t_keys T) x / 64))), (0, .ref (o)), (1, .ref (po)), (2, .int (iI (x)))] dX2_take_24 hl (by decide) rfl (fun ls hl => ?_)
    have hloop26 : ∀ (k26 : Nat) (e : Int) (X : Tb) (hkk : e + k26 = p_edges P) (he : 0 ≤ e) (hXo : tOk X) (hq : tTake P x T = it (tTakeF P x (t_keys T x / 64)) k26 e X) (H : Heap) (locs : List Loc) (ls : Array Slot), HW g A zs.heap (tW g o ad X ++ pW g po pa P) H locs → lv_has ls 5 [(0, .ref (o)), (1, .ref (po)), (2, .int (iI (x))), (3, .int (iI ((t_keys T) x / 64))), (4, .int (iI (e)))] → W zp l ze (rmm 4 124) zs zm (List.toArray [.ref (o), .ref (po), .int (iI (x))]) zb zt zc H locs 0 0 (MQ zb (QW g (tW g o ad T ++ pW g po pa P) (tW g o ad (tTake P x T) ++ pW g po pa P) zs.heap.size none) (List.toArray [.ref (o), .ref (po), .int (iI (x))]) zs 0 0 A) (F0 zm 26 ls []) := by
      intro k26
      induction k26 with
      | zero =>
        intro e X hkk he hXo hq H locs ls hW hl
        obtain ⟨hXo_ready, hXo_seedProc, hXo_seedFacts, hXo_size, hXo_seen, hXo_keys, hXo_placeOf, hXo_before, hXo_through, hXo_way, hXo_inner, hXo_sites, hXo_siteCount⟩ := id hXo
        refine r_iload C dX2_take_26 hl 4 rfl ?_
        refine r_aload_n C dX2_take_28 hl 1 rfl ?_
        refine r_get (v := .int (iI (p_edges P))) C f_X2_92 hW.1 9 rfl rfl dX2_take_29 ?_
        refine r_icmp_ge C 98 dX2_take_32 (by decide) (by omega) (by omega) (fun hc4 => ?_) (fun hc4 => ?_)
        · skip
          have hE : tTake P x T = X := by rw [hq]; rfl
          exact MW_vret C hAe hrt hlk hW dX2_take_98 rfl (by rw [hE])
        · exact absurd hc4 (by omega)
      | succ k26 ih26 =>
        intro e X hkk he hXo hq H locs ls hW hl
        obtain ⟨hXo_ready, hXo_seedProc, hXo_seedFacts, hXo_size, hXo_seen, hXo_keys, hXo_placeOf, hXo_before, hXo_through, hXo_way, hXo_inner, hXo_sites, hXo_siteCount⟩ := id hXo
        refine r_iload C dX2_take_26 hl 4 rfl ?_
        refine r_aload_n C dX2_take_28 hl 1 rfl ?_
        refine r_get (v := .int (iI (p_edges P))) C f_X2_92 hW.1 9 rfl rfl dX2_take_29 ?_
        refine r_icmp_ge C 98 dX2_take_32 (by decide) (by omega) (by omega) (fun hc5 => ?_) (fun hc5 => ?_)
        · exact absurd hc5 (by omega)
        · skip
          refine r_aload_n C dX2_take_35 hl 1 rfl ?_
          refine r_get (v := .ref (pa 4)) C f_X2_95 hW.1 9 rfl rfl dX2_take_36 ?_
          refine r_iload C dX2_take_39 hl 4 rfl ?_
          refine r_iald (f := p_from P) C hW.1 14 rfl (Nat.le_of_ble_eq_true rfl) (by omega) dX2_take_41 ?_
          have hr6 := hP_from e (by omega) (by omega)
          refine r_iload_n C dX2_take_42 hl 3 rfl ?_
          refine r_icmp_ne C 92 dX2_take_43 (by decide) (by omega) (by omega) (fun hc7 => ?_) (fun hc7 => ?_)
          · skip
            refine r_iinc (v := e + 1) C [(4, .int (iI (e + 1))), (0, .ref (o)), (1, .ref (po)), (2, .int (iI (x))), (3, .int (iI ((t_keys T) x / 64)))] dX2_take_92 hl 4 rfl (by decide) (by omega) rfl (fun ls hl => ?_)
            refine r_goto C 26 dX2_take_95 (by decide) ?_
            have hE : tTakeF P x (t_keys T x / 64) e X = X := by unfold tTakeF; exact if_neg hc7
            exact ih26 _ (X) (by omega) (by omega) (by rw [← hE]; exact tTakeF_ok hP hXo (by omega) (by omega)) (by rw [hq, it_s, hE]) _ _ ls hW (lv_sub hl [1, 2, 3, 4, 0] rfl)
          · skip
            refine r_aload_n C dX2_take_46 hl 1 rfl ?_
            refine r_get (v := .ref (pa 6)) C f_X2_98 hW.1 9 rfl rfl dX2_take_47 ?_
            refine r_iload C dX2_take_50 hl 4 rfl ?_
            refine r_iald (f := p_callee P) C hW.1 16 rfl (Nat.le_of_ble_eq_true rfl) (by omega) dX2_take_52 ?_
            have hr8 := hP_callee e (by omega) (by omega)
            refine r_iconst (z := -1) C dX2_take_53 rfl ?_
            refine r_icmp_eq C 65 dX2_take_54 (by decide) (by omega) (by omega) (fun hc9 => ?_) (fun hc9 => ?_)
            · skip
              refine r_aload_n C dX2_take_65 hl 0 rfl ?_
              refine r_aload_n C dX2_take_66 hl 1 rfl ?_
              refine r_aload_n C dX2_take_67 hl 0 rfl ?_
              refine r_aload_n C dX2_take_68 hl 1 rfl ?_
              refine r_iload_n C dX2_take_69 hl 2 rfl ?_
              refine r_iload C dX2_take_70 hl 4 rfl ?_
              refine r_callR (rest := [.ref (po), .ref (o)]) (r := .int (iI ((p_to P) e * 8 + (t_keys X) x / 8 % 8))) C hl.1 (c_X2_landing l g o ad X po pa P x e (by assumption) (by assumption) (show 0 ≤ x ∧ x < 1536 by omega) (show 0 ≤ e ∧ e < 32 by omega)) v_X2_105 rfl hW.1 0 rfl rfl rfl (by decide) (by decide) (Nat.le_of_ble_eq_true rfl) dX2_take_72 rfl ?_
              have hq10 := tLand_q P X x e (by assumption) (by assumption) (by omega) (by omega)
              refine r_aload_n C dX2_take_75 hl 1 rfl ?_
              refine r_iload C dX2_take_76 hl 4 rfl ?_
              refine r_iconst (z := 0) C dX2_take_78 rfl ?_
              refine r_aload_n C dX2_take_79 hl 0 rfl ?_
              refine r_iload_n C dX2_take_80 hl 2 rfl ?_
              refine r_callR (rest := [.int (iI (0)), .int (iI (e)), .ref (po), .int (iI ((p_to P) e * 8 + (t_keys X) x / 8 % 8)), .ref (po), .ref (o)]) (r := .int (iI ((t_keys X) x % 8))) C hl.1 (c_X2_factOf l g o ad X x (by assumption) (show 0 ≤ x ∧ x < 1536 by omega)) v_X2_83 rfl (hW.1.sub [0, 1, 2, 3, 4, 5, 6, 7, 8] rfl) 0 rfl rfl rfl (by decide) (by decide) (Nat.le_of_ble_eq_true rfl) dX2_take_81 rfl ?_
              have hq11 := tKeys_q X x (by assumption) (by omega)
              refine r_callR (rest := [.int (iI ((p_to P) e * 8 + (t_keys X) x / 8 % 8)), .ref (po), .ref (o)]) (r := .int (iI (pReach P e 0 ((t_keys X) x % 8)))) C hl.1 (c_X0_reach l g po pa P e 0 ((t_keys X) x % 8) (show 0 ≤ e ∧ e < 32 by omega) (show 0 ≤ 0 ∧ 0 < 3 by omega) (show 0 ≤ ((t_keys X) x % 8) ∧ ((t_keys X) x % 8) < 8 by omega)) v_X2_109 rfl (hW.1.sub [9, 10, 11, 12, 13, 14, 15, 16, 17] rfl) 0 rfl rfl rfl (by decide) (by decide) (Nat.le_of_ble_eq_true rfl) dX2_take_84 rfl ?_
              have hq12 := pReach_r P e 0 ((t_keys X) x % 8)
              refine r_iload_n C dX2_take_87 hl 2 rfl ?_
              refine r_iconst (z := -1) C dX2_take_88 rfl ?_
              refine r_callW (rest := []) (r := none) (wr := []) (ws2 := tW g o ad (tCome P ((p_to P) e * 8 + (t_keys X) x / 8 % 8) (pReach P e 0 ((t_keys X) x % 8)) x (-1) X) ++ pW g po pa P) (st1 := []) C hl.1 hW hA (c_X2_come l g o ad X po pa P ((p_to P) e * 8 + (t_keys X) x / 8 % 8) (pReach P e 0 ((t_keys X) x % 8)) x (-1) (by assumption) (by assumption) (show 0 ≤ ((p_to P) e * 8 + (t_keys X) x / 8 % 8) ∧ ((p_to P) e * 8 + (t_keys X) x / 8 % 8) < 192 by omega) (show 0 ≤ (pReach P e 0 ((t_keys X) x % 8)) ∧ (pReach P e 0 ((t_keys X) x % 8)) < 256 by omega) (show -1 ≤ x ∧ x < 1536 by omega) (show -1 ≤ (-1) ∧ (-1) < 1536 by omega)) v_X2_66 rfl [0, 1, 2, 3, 4, 5, 6, 7, 8, 9, 10, 11, 12, 13, 14, 15, 16, 17] [] [0, 1, 2, 3, 4, 5, 6, 7, 8, 9, 10, 11, 12, 13, 14, 15, 16, 17] rfl rfl (by decide) (by decide) rfl rfl 0 rfl rfl rfl (by decide) (by decide) (Nat.le_of_ble_eq_true rfl) dX2_take_89 rfl rfl (fun H locs hW => ?_)
              have hok13 : tOk (tCome P ((p_to P) e * 8 + (t_keys X) x / 8 % 8) (pReach P e 0 ((t_keys X) x % 8)) x (-1) X) := tCome_ok (by assumption) (by omega) (by omega) (by omega) (by omega)
              refine r_iinc (v := e + 1) C [(4, .int (iI (e + 1))), (0, .ref (o)), (1, .ref (po)), (2, .int (iI (x))), (3, .int (iI ((t_keys T) x / 64)))] dX2_take_92 hl 4 rfl (by decide) (by omega) rfl (fun ls hl => ?_)
              refine r_goto C 26 dX2_take_95 (by decide) ?_
              have hE : tTakeF P x (t_keys T x / 64) e X = tCome P ((p_to P) e * 8 + (t_keys X) x / 8 % 8) (pReach P e 0 ((t_keys X) x % 8)) x (-1) X := by unfold tTakeF tTakeE; simp only [if_pos (Decidable.not_not.mp (fun h => h hc7)), if_pos hc9]
              exact ih26 _ (tCome P ((p_to P) e * 8 + (t_keys X) x / 8 % 8) (pReach P e 0 ((t_keys X) x % 8)) x (-1) X) (by omega) (by omega) (by rw [← hE]; exact tTakeF_ok hP hXo (by omega) (by omega)) (by rw [hq, it_s, hE]) _ _ ls hW (lv_sub hl [1, 2, 3, 4, 0] rfl)
            · skip
              refine r_aload_n C dX2_take_57 hl 0 rfl ?_
              refine r_aload_n C dX2_take_58 hl 1 rfl ?_
              refine r_iload_n C dX2_take_59 hl 2 rfl ?_
              refine r_iload C dX2_take_60 hl 4 rfl ?_
              refine r_callW (rest := []) (r := none) (wr := []) (ws2 := tW g o ad (tEnter P x e X) ++ pW g po pa P) (st1 := []) C hl.1 hW hA (c_X2_enter l g o ad X po pa P x e (by assumption) (by assumption) (show 0 ≤ x ∧ x < 1536 by omega) (show 0 ≤ e ∧ e < 32 by omega) (show 0 ≤ (p_callee P) e by omega)) v_X2_101 rfl [0, 1, 2, 3, 4, 5, 6, 7, 8, 9, 10, 11, 12, 13, 14, 15, 16, 17] [] [0, 1, 2, 3, 4, 5, 6, 7, 8, 9, 10, 11, 12, 13, 14, 15, 16, 17] rfl rfl (by decide) (by decide) rfl rfl 0 rfl rfl rfl (by decide) (by decide) (Nat.le_of_ble_eq_true rfl) dX2_take_62 rfl rfl (fun H locs hW => ?_)
              have hok14 : tOk (tEnter P x e X) := tEnter_ok (by assumption) (by assumption) (by omega) (by omega) (by omega)
              refine r_aload_n C dX2_take_65 hl 0 rfl ?_
              refine r_aload_n C dX2_take_66 hl 1 rfl ?_
              refine r_aload_n C dX2_take_67 hl 0 rfl ?_
              refine r_aload_n C dX2_take_68 hl 1 rfl ?_
              refine r_iload_n C dX2_take_69 hl 2 rfl ?_
              refine r_iload C dX2_take_70 hl 4 rfl ?_
              refine r_callR (rest := [.ref (po), .ref (o)]) (r := .int (iI ((p_to P) e * 8 + (t_keys (tEnter P x e X)) x / 8 % 8))) C hl.1 (c_X2_landing l g o ad (tEnter P x e X) po pa P x e (by assumption) (by assumption) (show 0 ≤ x ∧ x < 1536 by omega) (show 0 ≤ e ∧ e < 32 by omega)) v_X2_105 rfl hW.1 0 rfl rfl rfl (by decide) (by decide) (Nat.le_of_ble_eq_true rfl) dX2_take_72 rfl ?_
              have hq15 := tLand_q P (tEnter P x e X) x e (by assumption) (by assumption) (by omega) (by omega)
              refine r_aload_n C dX2_take_75 hl 1 rfl ?_
              refine r_iload C dX2_take_76 hl 4 rfl ?_
              refine r_iconst (z := 0) C dX2_take_78 rfl ?_
              refine r_aload_n C dX2_take_79 hl 0 rfl ?_
              refine r_iload_n C dX2_take_80 hl 2 rfl ?_
              refine r_callR (rest := [.int (iI (0)), .int (iI (e)), .ref (po), .int (iI ((p_to P) e * 8 + (t_keys (tEnter P x e X)) x / 8 % 8)), .ref (po), .ref (o)]) (r := .int (iI ((t_keys (tEnter P x e X)) x % 8))) C hl.1 (c_X2_factOf l g o ad (tEnter P x e X) x (by assumption) (show 0 ≤ x ∧ x < 1536 by omega)) v_X2_83 rfl (hW.1.sub [0, 1, 2, 3, 4, 5, 6, 7, 8] rfl) 0 rfl rfl rfl (by decide) (by decide) (Nat.le_of_ble_eq_true rfl) dX2_take_81 rfl ?_
              have hq16 := tKeys_q (tEnter P x e X) x (by assumption) (by omega)
              refine r_callR (rest := [.int (iI ((p_to P) e * 8 + (t_keys (tEnter P x e X)) x / 8 % 8)), .ref (po), .ref (o)]) (r := .int (iI (pReach P e 0 ((t_keys (tEnter P x e X)) x % 8)))) C hl.1 (c_X0_reach l g po pa P e 0 ((t_keys (tEnter P x e X)) x % 8) (show 0 ≤ e ∧ e < 32 by omega) (show 0 ≤ 0 ∧ 0 < 3 by omega) (show 0 ≤ ((t_keys (tEnter P x e X)) x % 8) ∧ ((t_keys (tEnter P x e X)) x % 8) < 8 by omega)) v_X2_109 rfl (hW.1.sub [9, 10, 11, 12, 13, 14, 15, 16, 17] rfl) 0 rfl rfl rfl (by decide) (by decide) (Nat.le_of_ble_eq_true rfl) dX2_take_84 rfl ?_
              have hq17 := pReach_r P e 0 ((t_keys (tEnter P x e X)) x % 8)
              refine r_iload_n C dX2_take_87 hl 2 rfl ?_
              refine r_iconst (z := -1) C dX2_take_88 rfl ?_
              refine r_callW (rest := []) (r := none) (wr := []) (ws2 := tW g o ad (tCome P ((p_to P) e * 8 + (t_keys (tEnter P x e X)) x / 8 % 8) (pReach P e 0 ((t_keys (tEnter P x e X)) x % 8)) x (-1) (tEnter P x e X)) ++ pW g po pa P) (st1 := []) C hl.1 hW hA (c_X2_come l g o ad (tEnter P x e X) po pa P ((p_to P) e * 8 + (t_keys (tEnter P x e X)) x / 8 % 8) (pReach P e 0 ((t_keys (tEnter P x e X)) x % 8)) x (-1) (by assumption) (by assumption) (show 0 ≤ ((p_to P) e * 8 + (t_keys (tEnter P x e X)) x / 8 % 8) ∧ ((p_to P) e * 8 + (t_keys (tEnter P x e X)) x / 8 % 8) < 192 by omega) (show 0 ≤ (pReach P e 0 ((t_keys (tEnter P x e X)) x % 8)) ∧ (pReach P e 0 ((t_keys (tEnter P x e X)) x % 8)) < 256 by omega) (show -1 ≤ x ∧ x < 1536 by omega) (show -1 ≤ (-1) ∧ (-1) < 1536 by omega)) v_X2_66 rfl [0, 1, 2, 3, 4, 5, 6, 7, 8, 9, 10, 11, 12, 13, 14, 15, 16, 17] [] [0, 1, 2, 3, 4, 5, 6, 7, 8, 9, 10, 11, 12, 13, 14, 15, 16, 17] rfl rfl (by decide) (by decide) rfl rfl 0 rfl rfl rfl (by decide) (by decide) (Nat.le_of_ble_eq_true rfl) dX2_take_89 rfl rfl (fun H locs hW => ?_)
              have hok18 : tOk (tCome P ((p_to P) e * 8 + (t_keys (tEnter P x e X)) x / 8 % 8) (pReach P e 0 ((t_keys (tEnter P x e X)) x % 8)) x (-1) (tEnter P x e X)) := tCome_ok (by assumption) (by omega) (by omega) (by omega) (by omega)
              refine r_iinc (v := e + 1) C [(4, .int (iI (e + 1))), (0, .ref (o)), (1, .ref (po)), (2, .int (iI (x))), (3, .int (iI ((t_keys T) x / 64)))] dX2_take_92 hl 4 rfl (by decide) (by omega) rfl (fun ls hl => ?_)
              refine r_goto C 26 dX2_take_95 (by decide) ?_
              have hE : tTakeF P x (t_keys T x / 64) e X = tCome P ((p_to P) e * 8 + (t_keys (tEnter P x e X)) x / 8 % 8) (pReach P e 0 ((t_keys (tEnter P x e X)) x % 8)) x (-1) (tEnter P x e X) := by unfold tTakeF tTakeE; simp only [if_pos (Decidable.not_not.mp (fun h => h hc7)), if_neg hc9]
              exact ih26 _ (tCome P ((p_to P) e * 8 + (t_keys (tEnter P x e X)) x / 8 % 8) (pReach P e 0 ((t_keys (tEnter P x e X)) x % 8)) x (-1) (tEnter P x e X)) (by omega) (by omega) (by rw [← hE]; exact tTakeF_ok hP hXo (by omega) (by omega)) (by rw [hq, it_s, hE]) _ _ ls hW (lv_sub hl [1, 2, 3, 4, 0] rfl)
    exact hloop26 (p_edges P).toNat 0 _ (by omega) (by omega) (by assumption) (if_neg hc3) _ _ ls hW (lv_sub hl [2, 3, 4, 1, 0] rfl)
  · skip
    refine r_aload_n C dX2_take_16 hl 1 rfl ?_
    refine r_aload_n C dX2_take_17 hl 2 rfl ?_
    refine r_iload_n C dX2_take_18 hl 3 rfl ?_
    refine r_callW (rest := []) (r := none) (wr := []) (ws2 := tW g o ad (tRet P x T) ++ pW g po pa P) (st1 := []) C hl.1 hW hA (c_X2_returnToCallers l g o ad T po pa P x (by assumption) (by assumption) (show 0 ≤ x ∧ x < 1536 by omega)) v_X2_89 rfl [0, 1, 2, 3, 4, 5, 6, 7, 8, 9, 10, 11, 12, 13, 14, 15, 16, 17] [] [0, 1, 2, 3, 4, 5, 6, 7, 8, 9, 10, 11, 12, 13, 14, 15, 16, 17] rfl rfl (by decide) (by decide) rfl rfl 0 rfl rfl rfl (by decide) (by decide) (Nat.le_of_ble_eq_true rfl) dX2_take_19 rfl rfl (fun H locs hW => ?_)
    have hok19 : tOk (tRet P x T) := tRet_ok (by assumption) (by assumption) (by omega)
    have hE : tTake P x T = tRet P x T := if_pos hc3
    exact MW_vret C hAe hrt hlk hW dX2_take_22 rfl (by rw [hE])
set_option maxHeartbeats 4000000 in
set_option maxRecDepth 100000 in
theorem c_X2_fill (l : Launch) (g : GG) (o : Nat) (ad : Nat → Nat) (T : Tb) (po : Nat) (pa : Nat → Nat) (P : Pg) (q s : Int) (hT : tOk T) (hP : pOk P) (hq5 : 0 ≤ q ∧ q < 5) (hs : 0 ≤ s ∧ s < 256) : MW l g yX2_fill cX2_fill 5 none 5 148 [.ref (o), .ref (po), .int (iI (q)), .int (iI (s))] (tW g o ad T ++ pW g po pa P) (tW g o ad (tFill P q s T) ++ pW g po pa P) none := by
  refine MW_start (by decide) (Nat.le_of_ble_eq_true rfl) ?_
  intro zp ze zs zm zb zt zc A hAe C hrt hlk hW ls hl
  have hA : ∀ q, zs.heap.size ≤ q → A q := fun q h => by rw [hAe]; exact Or.inr h
  have hl : lv_has ls 5 [(0, .ref (o)), (1, .ref (po)), (2, .int (iI (q))), (3, .int (iI (s)))] := hl
  obtain ⟨hT_ready, hT_seedProc, hT_seedFacts, hT_size, hT_seen, hT_keys, hT_placeOf, hT_before, hT_through, hT_way, hT_inner, hT_sites, hT_siteCount⟩ := id hT
  obtain ⟨hP_procs, hP_nodes, hP_edges, hP_start, hP_entryOf, hP_exitOf, hP_procOf, hP_kindOf, hP_from, hP_to, hP_callee⟩ := id hP
  have hloop52 : ∀ (k52 : Nat) (i : Int) (X : Tb) (hkk : i + k52 = 192) (hi : 0 ≤ i) (hnc : ¬ (t_ready T ≠ 0 ∧ t_seedProc T = q ∧ t_seedFacts T = s)) (hq0 : tClear q s T = it (fun i T => ts_seen T (up (t_seen T) i 0)) k52 i X) (H : Heap) (locs : List Loc) (ls : Array Slot), HW g A zs.heap (tW g o ad X ++ pW g po pa P) H locs → lv_has ls 5 [(0, .ref (o)), (1, .ref (po)), (2, .int (iI (q))), (3, .int (iI (s))), (4, .int (iI (i)))] → W zp l ze (rmm 5 148) zs zm (List.toArray [.ref (o), .ref (po), .int (iI (q)), .int (iI (s))]) zb zt zc H locs 0 0 (MQ zb (QW g (tW g o ad T ++ pW g po pa P) (tW g o ad (tFill P q s T) ++ pW g po pa P) zs.heap.size none) (List.toArray [.ref (o), .ref (po), .int (iI (q)), .int (iI (s))]) zs 0 0 A) (F0 zm 52 ls []) := by
    intro k52
    induction k52 with
    | zero =>
      intro i X hkk hi hnc hq0 H locs ls hW hl
      refine r_iload C dX2_fill_52 hl 4 rfl ?_
      refine r_sipush (z := 192) C dX2_fill_54 rfl ?_
      refine r_icmp_ge C 74 dX2_fill_57 (by decide) (by omega) (by omega) (fun hc1 => ?_) (fun hc1 => ?_)
      · skip
        refine r_iconst (z := 0) C dX2_fill_74 rfl ?_
        refine r_istore C [(4, .int (iI (0))), (0, .ref (o)), (1, .ref (po)), (2, .int (iI (q))), (3, .int (iI (s)))] dX2_fill_75 hl (by decide) rfl (fun ls hl => ?_)
        have hloop77 : ∀ (k77 : Nat) (a : Int) (Y : Tb) (hkk1 : a + k77 = 8) (ha : 0 ≤ a) (hYo : tOk Y) (hq1 : it (tSeedF P q s) 8 0 (tClear q s T) = it (tSeedF P q s) k77 a Y) (H : Heap) (locs : List Loc) (ls : Array Slot), HW g A zs.heap (tW g o ad Y ++ pW g po pa P) H locs → lv_has ls 5 [(0, .ref (o)), (1, .ref (po)), (2, .int (iI (q))), (3, .int (iI (s))), (4, .int (iI (a)))] → W zp l ze (rmm 5 148) zs zm (List.toArray [.ref (o), .ref (po), .int (iI (q)), .int (iI (s))]) zb zt zc H locs 0 0 (MQ zb (QW g (tW g o ad T ++ pW g po pa P) (tW g o ad (tFill P q s T) ++ pW g po pa P) zs.heap.size none) (List.toArray [.ref (o), .ref (po), .int (iI (q)), .int (iI (s))]) zs 0 0 A) (F0 zm 77 ls []) := by
          intro k77
          induction k77 with
          | zero =>
            intro a Y hkk1 ha hYo hq1 H locs ls hW hl
            obtain ⟨hYo_ready, hYo_seedProc, hYo_seedFacts, hYo_size, hYo_seen, hYo_keys, hYo_placeOf, hYo_before, hYo_through, hYo_way, hYo_inner, hYo_sites, hYo_siteCount⟩ := id hYo
            refine r_iload C dX2_fill_77 hl 4 rfl ?_
            refine r_bipush (z := 8) C dX2_fill_79 rfl ?_
            refine r_icmp_ge C 121 dX2_fill_81 (by decide) (by omega) (by omega) (fun hc2 => ?_) (fun hc2 => ?_)
            · skip
              refine r_iconst (z := 0) C dX2_fill_121 rfl ?_
              refine r_istore C [(4, .int (iI (0))), (0, .ref (o)), (1, .ref (po)), (2, .int (iI (q))), (3, .int (iI (s)))] dX2_fill_122 hl (by decide) rfl (fun ls hl => ?_)
              have hloop124 : ∀ (k124 : Nat) (x : Int) (Z : Tb) (hkk2 : x + k124 = 1536) (hx : 0 ≤ x) (hZo : tOk Z) (hq2 : tFill P q s T = tRun P k124 x Z) (H : Heap) (locs : List Loc) (ls : Array Slot), HW g A zs.heap (tW g o ad Z ++ pW g po pa P) H locs → lv_has ls 5 [(0, .ref (o)), (1, .ref (po)), (2, .int (iI (q))), (3, .int (iI (s))), (4, .int (iI (x)))] → W zp l ze (rmm 5 148) zs zm (List.toArray [.ref (o), .ref (po), .int (iI (q)), .int (iI (s))]) zb zt zc H locs 0 0 (MQ zb (QW g (tW g o ad T ++ pW g po pa P) (tW g o ad (tFill P q s T) ++ pW g po pa P) zs.heap.size none) (List.toArray [.ref (o), .ref (po), .int (iI (q)), .int (iI (s))]) zs 0 0 A) (F0 zm 124 ls []) := by
                intro k124
                induction k124 with
                | zero =>
                  intro x Z hkk2 hx hZo hq2 H locs ls hW hl
                  obtain ⟨hZo_ready, hZo_seedProc, hZo_seedFacts, hZo_size, hZo_seen, hZo_keys, hZo_placeOf, hZo_before, hZo_through, hZo_way, hZo_inner, hZo_sites, hZo_siteCount⟩ := id hZo
                  refine r_iload C dX2_fill_124 hl 4 rfl ?_
                  refine r_aload_n C dX2_fill_126 hl 0 rfl ?_
                  refine r_get (v := .int (iI (t_size Z))) C f_X2_22 hW.1 0 rfl rfl dX2_fill_127 ?_
                  refine r_icmp_ge C 154 dX2_fill_130 (by decide) (by omega) (by omega) (fun hc3 => ?_) (fun hc3 => ?_)
                  · skip
                    have hE : tFill P q s T = Z := by rw [hq2]; first | rfl | (unfold tRun; exact if_neg (by omega))
                    exact MW_vret C hAe hrt hlk hW dX2_fill_154 rfl (by rw [hE])
                  · exact absurd hc3 (by omega)
                | succ k124 ih124 =>
                  intro x Z hkk2 hx hZo hq2 H locs ls hW hl
                  obtain ⟨hZo_ready, hZo_seedProc, hZo_seedFacts, hZo_size, hZo_seen, hZo_keys, hZo_placeOf, hZo_before, hZo_through, hZo_way, hZo_inner, hZo_sites, hZo_siteCount⟩ := id hZo
                  refine r_iload C dX2_fill_124 hl 4 rfl ?_
                  refine r_aload_n C dX2_fill_126 hl 0 rfl ?_
                  refine r_get (v := .int (iI (t_size Z))) C f_X2_22 hW.1 0 rfl rfl dX2_fill_127 ?_
                  refine r_icmp_ge C 154 dX2_fill_130 (by decide) (by omega) (by omega) (fun hc4 => ?_) (fun hc4 => ?_)
                  · skip
                    have hE : tFill P q s T = Z := by rw [hq2]; first | rfl | (unfold tRun; exact if_neg (by omega))
                    exact MW_vret C hAe hrt hlk hW dX2_fill_154 rfl (by rw [hE])
                  · skip
                    refine r_iload C dX2_fill_133 hl 4 rfl ?_
                    refine r_sipush (z := 1536) C dX2_fill_135 rfl ?_
                    refine r_icmp_ge C 154 dX2_fill_138 (by decide) (by omega) (by omega) (fun hc5 => ?_) (fun hc5 => ?_)
                    · exact absurd hc5 (by omega)
                    · skip
                      refine r_aload_n C dX2_fill_141 hl 0 rfl ?_
                      refine r_aload_n C dX2_fill_142 hl 1 rfl ?_
                      refine r_iload C dX2_fill_143 hl 4 rfl ?_
                      refine r_callW (rest := []) (r := none) (wr := []) (ws2 := tW g o ad (tTake P x Z) ++ pW g po pa P) (st1 := []) C hl.1 hW hA (c_X2_take l g o ad Z po pa P x (by assumption) (by assumption) (show 0 ≤ x ∧ x < 1536 by omega)) v_X2_70 rfl [0, 1, 2, 3, 4, 5, 6, 7, 8, 9, 10, 11, 12, 13, 14, 15, 16, 17] [] [0, 1, 2, 3, 4, 5, 6, 7, 8, 9, 10, 11, 12, 13, 14, 15, 16, 17] rfl rfl (by decide) (by decide) rfl rfl 0 rfl rfl rfl (by decide) (by decide) (Nat.le_of_ble_eq_true rfl) dX2_fill_145 rfl rfl (fun H locs hW => ?_)
                      have hok6 : tOk (tTake P x Z) := tTake_ok (by assumption) (by assumption) (by omega)
                      refine r_iinc (v := x + 1) C [(4, .int (iI (x + 1))), (0, .ref (o)), (1, .ref (po)), (2, .int (iI (q))), (3, .int (iI (s)))] dX2_fill_148 hl 4 rfl (by decide) (by omega) rfl (fun ls hl => ?_)
                      refine r_goto C 124 dX2_fill_151 (by decide) ?_
                      exact ih124 (x + 1) (tTake P x Z) (by omega) (by omega) (by assumption) (by rw [hq2]; show (if x < t_size Z then _ else _) = _; exact if_pos (by omega)) _ _ ls hW (lv_sub hl [1, 2, 3, 4, 0] rfl)
              exact hloop124 1536 0 Y (by omega) (by omega) hYo (by unfold tFill; rw [if_neg hnc, hq1]; rfl) _ _ ls hW (lv_sub hl [1, 2, 3, 4, 0] rfl)
            · exact absurd hc2 (by omega)
          | succ k77 ih77 =>
            intro a Y hkk1 ha hYo hq1 H locs ls hW hl
            obtain ⟨hYo_ready, hYo_seedProc, hYo_seedFacts, hYo_size, hYo_seen, hYo_keys, hYo_placeOf, hYo_before, hYo_through, hYo_way, hYo_inner, hYo_sites, hYo_siteCount⟩ := id hYo
            refine r_iload C dX2_fill_77 hl 4 rfl ?_
            refine r_bipush (z := 8) C dX2_fill_79 rfl ?_
            refine r_icmp_ge C 121 dX2_fill_81 (by decide) (by omega) (by omega) (fun hc7 => ?_) (fun hc7 => ?_)
            · exact absurd hc7 (by omega)
            · skip
              refine r_iload_n C dX2_fill_84 hl 3 rfl ?_
              refine r_iload C dX2_fill_85 hl 4 rfl ?_
              refine r_callRN (rest := []) (r := .int (iI (bI (tb s a = true)))) C hl.1 (c_X4_has l g  s a (show 0 ≤ s ∧ s < 2147483648 by omega) (show 0 ≤ a ∧ a < 31 by omega)) v_X2_53 rfl (fun k q h => by simp at h) (by decide) (by decide) (Nat.le_of_ble_eq_true rfl) dX2_fill_87 rfl ?_
              refine r_ifb_eq C 115 dX2_fill_90 (by decide) (fun hc8 => ?_) (fun hc8 => ?_)
              · skip
                refine r_iinc (v := a + 1) C [(4, .int (iI (a + 1))), (0, .ref (o)), (1, .ref (po)), (2, .int (iI (q))), (3, .int (iI (s)))] dX2_fill_115 hl 4 rfl (by decide) (by omega) rfl (fun ls hl => ?_)
                refine r_goto C 77 dX2_fill_118 (by decide) ?_
                have hE : tSeedF P q s a Y = Y := if_neg hc8
                exact ih77 _ (Y) (by omega) (by omega) (by rw [← hE]; exact tSeedF_ok hP hYo (by omega) (by omega)) (by rw [hq1, it_s, hE]) _ _ ls hW (lv_sub hl [1, 2, 3, 4, 0] rfl)
              · skip
                refine r_aload_n C dX2_fill_93 hl 0 rfl ?_
                refine r_aload_n C dX2_fill_94 hl 1 rfl ?_
                refine r_aload_n C dX2_fill_95 hl 1 rfl ?_
                refine r_get (v := .ref (pa 0)) C f_X2_57 hW.1 9 rfl rfl dX2_fill_96 ?_
                refine r_iload_n C dX2_fill_99 hl 2 rfl ?_
                refine r_iald (f := p_entryOf P) C hW.1 10 rfl (Nat.le_of_ble_eq_true rfl) (by omega) dX2_fill_100 ?_
                have hr9 := hP_entryOf q (by omega) (by omega)
                refine r_iload C dX2_fill_101 hl 4 rfl ?_
                refine r_callRN (rest := [.ref (po), .ref (o)]) (r := .int (iI ((p_entryOf P q) * 8 + a))) C hl.1 (c_X4_cell l g  (p_entryOf P q) a) v_X2_62 rfl (fun k q h => by simp at h) (by decide) (by decide) (Nat.le_of_ble_eq_true rfl) dX2_fill_103 rfl ?_
                refine r_iconst (z := 1) C dX2_fill_106 rfl ?_
                refine r_iload C dX2_fill_107 hl 4 rfl ?_
                refine r_ishl1 C (by omega) (by omega) dX2_fill_109 ?_
                have hb10 := p2_0 a
                have hb11 : p2 a < 256 := p2_8 (by omega)
                refine r_iconst (z := -1) C dX2_fill_110 rfl ?_
                refine r_iconst (z := -1) C dX2_fill_111 rfl ?_
                refine r_callW (rest := []) (r := none) (wr := []) (ws2 := tW g o ad (tCome P ((p_entryOf P q) * 8 + a) (p2 a) (-1) (-1) Y) ++ pW g po pa P) (st1 := []) C hl.1 hW hA (c_X2_come l g o ad Y po pa P ((p_entryOf P q) * 8 + a) (p2 a) (-1) (-1) (by assumption) (by assumption) (show 0 ≤ ((p_entryOf P q) * 8 + a) ∧ ((p_entryOf P q) * 8 + a) < 192 by omega) (show 0 ≤ (p2 a) ∧ (p2 a) < 256 by omega) (show -1 ≤ (-1) ∧ (-1) < 1536 by omega) (show -1 ≤ (-1) ∧ (-1) < 1536 by omega)) v_X2_66 rfl [0, 1, 2, 3, 4, 5, 6, 7, 8, 9, 10, 11, 12, 13, 14, 15, 16, 17] [] [0, 1, 2, 3, 4, 5, 6, 7, 8, 9, 10, 11, 12, 13, 14, 15, 16, 17] rfl rfl (by decide) (by decide) rfl rfl 0 rfl rfl rfl (by decide) (by decide) (Nat.le_of_ble_eq_true rfl) dX2_fill_112 rfl rfl (fun H locs hW => ?_)
                have hok12 : tOk (tCome P ((p_entryOf P q) * 8 + a) (p2 a) (-1) (-1) Y) := tCome_ok (by assumption) (by omega) (by omega) (by omega) (by omega)
                refine r_iinc (v := a + 1) C [(4, .int (iI (a + 1))), (0, .ref (o)), (1, .ref (po)), (2, .int (iI (q))), (3, .int (iI (s)))] dX2_fill_115 hl 4 rfl (by decide) (by omega) rfl (fun ls hl => ?_)
                refine r_goto C 77 dX2_fill_118 (by decide) ?_
                have hE : tSeedF P q s a Y = tCome P ((p_entryOf P q) * 8 + a) (p2 a) (-1) (-1) Y := if_pos hc8
                exact ih77 _ (tCome P ((p_entryOf P q) * 8 + a) (p2 a) (-1) (-1) Y) (by omega) (by omega) (by rw [← hE]; exact tSeedF_ok hP hYo (by omega) (by omega)) (by rw [hq1, it_s, hE]) _ _ ls hW (lv_sub hl [1, 2, 3, 4, 0] rfl)
        have hX0 : tClear q s T = X := hq0
        exact hloop77 8 0 X (by omega) (by omega) (by rw [← hX0]; exact tClear_ok hT hq5 hs) (by rw [hX0]) _ _ ls hW (lv_sub hl [1, 2, 3, 4, 0] rfl)
      · exact absurd hc1 (by omega)
    | succ k52 ih52 =>
      intro i X hkk hi hnc hq0 H locs ls hW hl
      refine r_iload C dX2_fill_52 hl 4 rfl ?_
      refine r_sipush (z := 192) C dX2_fill_54 rfl ?_
      refine r_icmp_ge C 74 dX2_fill_57 (by decide) (by omega) (by omega) (fun hc13 => ?_) (fun hc13 => ?_)
      · exact absurd hc13 (by omega)
      · skip
        refine r_aload_n C dX2_fill_60 hl 0 rfl ?_
        refine r_get (v := .ref (ad 0)) C f_X2_25 hW.1 0 rfl rfl dX2_fill_61 ?_
        refine r_iload C dX2_fill_64 hl 4 rfl ?_
        refine r_iconst (z := 0) C dX2_fill_66 rfl ?_
        refine r_iast (f := t_seen X) C hW (tW g o ad (ts_seen X (up (t_seen X) i 0)) ++ pW g po pa P) 1 rfl (Nat.le_of_ble_eq_true rfl) (by omega) rfl dX2_fill_67 (fun H locs hW => ?_)
        refine r_iinc (v := i + 1) C [(4, .int (iI (i + 1))), (0, .ref (o)), (1, .ref (po)), (2, .int (iI (q))), (3, .int (iI (s)))] dX2_fill_68 hl 4 rfl (by decide) (by omega) rfl (fun ls hl => ?_)
        refine r_goto C 52 dX2_fill_71 (by decide) ?_
        exact ih52 _ _ (by omega) (by omega) (by assumption) (by rw [hq0, it_s]) _ _ ls hW (lv_sub hl [1, 2, 3, 4, 0] rfl)
  refine r_aload_n C dX2_fill_0 hl 0 rfl ?_
  refine r_get (v := .int (iI (t_ready T))) C f_X2_11 hW.1 0 rfl rfl dX2_fill_1 ?_
  refine r_if_eq C 24 dX2_fill_4 (by decide) (by omega) (fun hc14 => ?_) (fun hc14 => ?_)
  · skip
    refine r_aload_n C dX2_fill_24 hl 0 rfl ?_
    refine r_iconst (z := 1) C dX2_fill_25 rfl ?_
    refine r_put C f_X2_11 fp_2_0 hW (tW g o ad (ts_ready T 1) ++ pW g po pa P) 0 rfl (by decide) (by decide) (Nat.le_of_ble_eq_true rfl) rfl dX2_fill_26 (fun H locs hW => ?_)
    refine r_aload_n C dX2_fill_29 hl 0 rfl ?_
    refine r_iload_n C dX2_fill_30 hl 2 rfl ?_
    refine r_put C f_X2_15 fp_2_1 hW (tW g o ad (ts_seedProc (ts_ready T 1) q) ++ pW g po pa P) 0 rfl rfl rfl (Nat.le_of_ble_eq_true rfl) rfl dX2_fill_31 (fun H locs hW => ?_)
    refine r_aload_n C dX2_fill_34 hl 0 rfl ?_
    refine r_iload_n C dX2_fill_35 hl 3 rfl ?_
    refine r_put C f_X2_19 fp_2_2 hW (tW g o ad (ts_seedFacts (ts_seedProc (ts_ready T 1) q) s) ++ pW g po pa P) 0 rfl rfl rfl (Nat.le_of_ble_eq_true rfl) rfl dX2_fill_36 (fun H locs hW => ?_)
    refine r_aload_n C dX2_fill_39 hl 0 rfl ?_
    refine r_iconst (z := 0) C dX2_fill_40 rfl ?_
    refine r_put C f_X2_22 fp_2_3 hW (tW g o ad (ts_size (ts_seedFacts (ts_seedProc (ts_ready T 1) q) s) 0) ++ pW g po pa P) 0 rfl rfl rfl (Nat.le_of_ble_eq_true rfl) rfl dX2_fill_41 (fun H locs hW => ?_)
    refine r_aload_n C dX2_fill_44 hl 0 rfl ?_
    refine r_iconst (z := 0) C dX2_fill_45 rfl ?_
    refine r_put C f_X2_50 fp_2_12 hW (tW g o ad (ts_siteCount (ts_size (ts_seedFacts (ts_seedProc (ts_ready T 1) q) s) 0) 0) ++ pW g po pa P) 0 rfl rfl rfl (Nat.le_of_ble_eq_true rfl) rfl dX2_fill_46 (fun H locs hW => ?_)
    refine r_iconst (z := 0) C dX2_fill_49 rfl ?_
    refine r_istore C [(4, .int (iI (0))), (0, .ref (o)), (1, .ref (po)), (2, .int (iI (q))), (3, .int (iI (s)))] dX2_fill_50 hl (by decide) rfl (fun ls hl => ?_)
    exact hloop52 192 0 _ (by omega) (by omega) (by omega) rfl _ _ ls hW (lv_sub hl [1, 2, 3, 4, 0] rfl)
  · skip
    refine r_aload_n C dX2_fill_7 hl 0 rfl ?_
    refine r_get (v := .int (iI (t_seedProc T))) C f_X2_15 hW.1 0 rfl rfl dX2_fill_8 ?_
    refine r_iload_n C dX2_fill_11 hl 2 rfl ?_
    refine r_icmp_ne C 24 dX2_fill_12 (by decide) (by omega) (by omega) (fun hc15 => ?_) (fun hc15 => ?_)
    · skip
      refine r_aload_n C dX2_fill_24 hl 0 rfl ?_
      refine r_iconst (z := 1) C dX2_fill_25 rfl ?_
      refine r_put C f_X2_11 fp_2_0 hW (tW g o ad (ts_ready T 1) ++ pW g po pa P) 0 rfl (by decide) (by decide) (Nat.le_of_ble_eq_true rfl) rfl dX2_fill_26 (fun H locs hW => ?_)
      refine r_aload_n C dX2_fill_29 hl 0 rfl ?_
      refine r_iload_n C dX2_fill_30 hl 2 rfl ?_
      refine r_put C f_X2_15 fp_2_1 hW (tW g o ad (ts_seedProc (ts_ready T 1) q) ++ pW g po pa P) 0 rfl rfl rfl (Nat.le_of_ble_eq_true rfl) rfl dX2_fill_31 (fun H locs hW => ?_)
      refine r_aload_n C dX2_fill_34 hl 0 rfl ?_
      refine r_iload_n C dX2_fill_35 hl 3 rfl ?_
      refine r_put C f_X2_19 fp_2_2 hW (tW g o ad (ts_seedFacts (ts_seedProc (ts_ready T 1) q) s) ++ pW g po pa P) 0 rfl rfl rfl (Nat.le_of_ble_eq_true rfl) rfl dX2_fill_36 (fun H locs hW => ?_)
      refine r_aload_n C dX2_fill_39 hl 0 rfl ?_
      refine r_iconst (z := 0) C dX2_fill_40 rfl ?_
      refine r_put C f_X2_22 fp_2_3 hW (tW g o ad (ts_size (ts_seedFacts (ts_seedProc (ts_ready T 1) q) s) 0) ++ pW g po pa P) 0 rfl rfl rfl (Nat.le_of_ble_eq_true rfl) rfl dX2_fill_41 (fun H locs hW => ?_)
      refine r_aload_n C dX2_fill_44 hl 0 rfl ?_
      refine r_iconst (z := 0) C dX2_fill_45 rfl ?_
      refine r_put C f_X2_50 fp_2_12 hW (tW g o ad (ts_siteCount (ts_size (ts_seedFacts (ts_seedProc (ts_ready T 1) q) s) 0) 0) ++ pW g po pa P) 0 rfl rfl rfl (Nat.le_of_ble_eq_true rfl) rfl dX2_fill_46 (fun H locs hW => ?_)
      refine r_iconst (z := 0) C dX2_fill_49 rfl ?_
      refine r_istore C [(4, .int (iI (0))), (0, .ref (o)), (1, .ref (po)), (2, .int (iI (q))), (3, .int (iI (s)))] dX2_fill_50 hl (by decide) rfl (fun ls hl => ?_)
      exact hloop52 192 0 _ (by omega) (by omega) (by omega) rfl _ _ ls hW (lv_sub hl [1, 2, 3, 4, 0] rfl)
    · skip
      refine r_aload_n C dX2_fill_15 hl 0 rfl ?_
      refine r_get (v := .int (iI (t_seedFacts T))) C f_X2_19 hW.1 0 rfl rfl dX2_fill_16 ?_
      refine r_iload_n C dX2_fill_19 hl 3 rfl ?_
      refine r_icmp_ne C 24 dX2_fill_20 (by decide) (by omega) (by omega) (fun hc16 => ?_) (fun hc16 => ?_)
      · skip
        refine r_aload_n C dX2_fill_24 hl 0 rfl ?_
        refine r_iconst (z := 1) C dX2_fill_25 rfl ?_
        refine r_put C f_X2_11 fp_2_0 hW (tW g o ad (ts_ready T 1) ++ pW g po pa P) 0 rfl (by decide) (by decide) (Nat.le_of_ble_eq_true rfl) rfl dX2_fill_26 (fun H locs hW => ?_)
        refine r_aload_n C dX2_fill_29 hl 0 rfl ?_
        refine r_iload_n C dX2_fill_30 hl 2 rfl ?_
        refine r_put C f_X2_15 fp_2_1 hW (tW g o ad (ts_seedProc (ts_ready T 1) q) ++ pW g po pa P) 0 rfl rfl rfl (Nat.le_of_ble_eq_true rfl) rfl dX2_fill_31 (fun H locs hW => ?_)
        refine r_aload_n C dX2_fill_34 hl 0 rfl ?_
        refine r_iload_n C dX2_fill_35 hl 3 rfl ?_
        refine r_put C f_X2_19 fp_2_2 hW (tW g o ad (ts_seedFacts (ts_seedProc (ts_ready T 1) q) s) ++ pW g po pa P) 0 rfl rfl rfl (Nat.le_of_ble_eq_true rfl) rfl dX2_fill_36 (fun H locs hW => ?_)
        refine r_aload_n C dX2_fill_39 hl 0 rfl ?_
        refine r_iconst (z := 0) C dX2_fill_40 rfl ?_
        refine r_put C f_X2_22 fp_2_3 hW (tW g o ad (ts_size (ts_seedFacts (ts_seedProc (ts_ready T 1) q) s) 0) ++ pW g po pa P) 0 rfl rfl rfl (Nat.le_of_ble_eq_true rfl) rfl dX2_fill_41 (fun H locs hW => ?_)
        refine r_aload_n C dX2_fill_44 hl 0 rfl ?_
        refine r_iconst (z := 0) C dX2_fill_45 rfl ?_
        refine r_put C f_X2_50 fp_2_12 hW (tW g o ad (ts_siteCount (ts_size (ts_seedFacts (ts_seedProc (ts_ready T 1) q) s) 0) 0) ++ pW g po pa P) 0 rfl rfl rfl (Nat.le_of_ble_eq_true rfl) rfl dX2_fill_46 (fun H locs hW => ?_)
        refine r_iconst (z := 0) C dX2_fill_49 rfl ?_
        refine r_istore C [(4, .int (iI (0))), (0, .ref (o)), (1, .ref (po)), (2, .int (iI (q))), (3, .int (iI (s)))] dX2_fill_50 hl (by decide) rfl (fun ls hl => ?_)
        exact hloop52 192 0 _ (by omega) (by omega) (by omega) rfl _ _ ls hW (lv_sub hl [1, 2, 3, 4, 0] rfl)
      · skip
        have hE : tFill P q s T = T := if_pos ⟨by omega, by omega, by omega⟩
        exact MW_vret C hAe hrt hlk hW dX2_fill_23 rfl (by rw [hE])
set_option maxHeartbeats 4000000 in
set_option maxRecDepth 100000 in
theorem c_X2_pairOfWay (l : Launch) (g : GG) (o : Nat) (ad : Nat → Nat) (T : Tb) (x i : Int) (hT : tOk T) (hx : 0 ≤ x ∧ x < 1536) (hi : 0 ≤ i ∧ i < 1000) : MR l g yX2_pairOfWay cX2_pairOfWay 9 (some .int) 1 21 [.ref (o), .int (iI (x)), .int (iI (i))] (tW g o ad T) (.int (iI (tPairOf T x i))) := by
  refine MR_start (by decide) (Nat.le_of_ble_eq_true rfl) ?_
  intro zp ze zs zm zb zt zc C hrt hlk hH ls hl
  have hl : lv_has ls 9 [(0, .ref (o)), (1, .int (iI (x))), (2, .int (iI (i)))] := hl
  obtain ⟨hT_ready, hT_seedProc, hT_seedFacts, hT_size, hT_seen, hT_keys, hT_placeOf, hT_before, hT_through, hT_way, hT_inner, hT_sites, hT_siteCount⟩ := id hT
  refine r_iload_n C dX2_pairOfWay_0 hl 1 rfl ?_
  refine r_istore_n C [(3, .int (iI (x))), (0, .ref (o)), (1, .int (iI (x))), (2, .int (iI (i)))] dX2_pairOfWay_1 hl (by decide) rfl (fun ls hl => ?_)
  refine r_iload_n C dX2_pairOfWay_2 hl 3 rfl ?_
  refine r_istore C [(4, .int (iI (i))), (3, .int (iI (x))), (0, .ref (o)), (1, .int (iI (x))), (2, .int (iI (i)))] dX2_pairOfWay_3 hl (by decide) rfl (fun ls hl => ?_)
  refine r_aload_n C dX2_pairOfWay_5 hl 2 rfl ?_
  refine r_get (v := .ref (ad 5)) C f_X2_41 hH 0 rfl rfl dX2_pairOfWay_6 ?_
  refine r_astore C [(5, .ref (ad 5)), (4, .int (iI (i))), (3, .int (iI (x))), (0, .ref (o)), (1, .int (iI (x))), (2, .int (iI (i)))] dX2_pairOfWay_9 hl (by decide) rfl (fun ls hl => ?_)
  refine r_iconst (z := 0) C dX2_pairOfWay_11 rfl ?_
  refine r_istore C [(6, .int (iI (0))), (5, .ref (ad 5)), (4, .int (iI (i))), (3, .int (iI (x))), (0, .ref (o)), (1, .int (iI (x))), (2, .int (iI (i)))] dX2_pairOfWay_12 hl (by decide) rfl (fun ls hl => ?_)
  have hloop14 : ∀ (k14 : Nat) (w : Bool) (y left stp : Int) (hkk : stp + k14 = 1536) (hst : 0 ≤ stp) (hy : 0 ≤ y ∧ y < 1536) (hl0 : 0 ≤ left ∧ left < 1000) (hq : tPair T 1536 true x i = tPair T k14 w y left) (ls : Array Slot), lv_has ls 9 [(0, .ref (o)), (3, .int (iI (y))), (4, .int (iI (left))), (5, .ref (cond w (ad 5) (ad 6))), (6, .int (iI (stp)))] → W zp l ze (rmm 1 21) zs zm (List.toArray [.ref (o), .int (iI (x)), .int (iI (i))]) zb zt zc zs.heap [] 0 0 (MQ zb (QR (.int (iI (tPairOf T x i)))) (List.toArray [.ref (o), .int (iI (x)), .int (iI (i))]) zs 0 0 (fun _ => False)) (F0 zm 14 ls []) := by
    intro k14
    induction k14 with
    | zero =>
      intro w y left stp hkk hst hy hl0 hq ls hl
      cases w
      · skip
        have hl : lv_has ls 9 [(0, .ref (o)), (3, .int (iI (y))), (4, .int (iI (left))), (5, .ref (ad 6)), (6, .int (iI (stp)))] := hl
        refine r_iload C dX2_pairOfWay_14 hl 4 rfl ?_
        refine r_sipush (z := 1536) C dX2_pairOfWay_16 rfl ?_
        refine r_icmp_ge C 119 dX2_pairOfWay_19 (by decide) (by omega) (by omega) (fun hc1 => ?_) (fun hc1 => ?_)
        · skip
          refine r_bipush (z := 10) C dX2_pairOfWay_119 rfl ?_
          refine r_aload_n C dX2_pairOfWay_121 hl 0 rfl ?_
          refine r_iload_n C dX2_pairOfWay_122 hl 1 rfl ?_
          refine r_callR (rest := [.int (iI (10))]) (r := .int (iI ((t_keys T) y / 64))) C hl.1 (c_X2_nodeOf l g o ad T y (by assumption) (show 0 ≤ y ∧ y < 1536 by omega)) v_X2_79 rfl hH 0 rfl rfl rfl (by decide) (by decide) (Nat.le_of_ble_eq_true rfl) dX2_pairOfWay_123 rfl ?_
          have hq2 := tKeys_q T y (by assumption) (by omega)
          refine r_imul C dX2_pairOfWay_126 ?_
          refine r_aload_n C dX2_pairOfWay_127 hl 0 rfl ?_
          refine r_iload_n C dX2_pairOfWay_128 hl 1 rfl ?_
          refine r_callR (rest := [.int (iI (10 * ((t_keys T) y / 64)))]) (r := .int (iI ((t_keys T) y % 8))) C hl.1 (c_X2_factOf l g o ad T y (by assumption) (show 0 ≤ y ∧ y < 1536 by omega)) v_X2_83 rfl hH 0 rfl rfl rfl (by decide) (by decide) (Nat.le_of_ble_eq_true rfl) dX2_pairOfWay_129 rfl ?_
          have hq3 := tKeys_q T y (by assumption) (by omega)
          refine r_iadd C dX2_pairOfWay_132 ?_
          exact MR_iret C hrt hlk dX2_pairOfWay_133 (iv (by have hE : tPair T 1536 true x i = y := (by rw [hq]; first | rfl | ((first | rw [tPair_t] | rw [tPair_f]); first | exact if_pos (by omega) | exact (if_neg (by omega)).trans ((if_neg (by omega)).trans (if_neg (by omega))))); unfold tPairOf; rw [hE]))
        · exact absurd hc1 (by omega)
      · skip
        have hl : lv_has ls 9 [(0, .ref (o)), (3, .int (iI (y))), (4, .int (iI (left))), (5, .ref (ad 5)), (6, .int (iI (stp)))] := hl
        refine r_iload C dX2_pairOfWay_14 hl 4 rfl ?_
        refine r_sipush (z := 1536) C dX2_pairOfWay_16 rfl ?_
        refine r_icmp_ge C 119 dX2_pairOfWay_19 (by decide) (by omega) (by omega) (fun hc4 => ?_) (fun hc4 => ?_)
        · skip
          refine r_bipush (z := 10) C dX2_pairOfWay_119 rfl ?_
          refine r_aload_n C dX2_pairOfWay_121 hl 0 rfl ?_
          refine r_iload_n C dX2_pairOfWay_122 hl 1 rfl ?_
          refine r_callR (rest := [.int (iI (10))]) (r := .int (iI ((t_keys T) y / 64))) C hl.1 (c_X2_nodeOf l g o ad T y (by assumption) (show 0 ≤ y ∧ y < 1536 by omega)) v_X2_79 rfl hH 0 rfl rfl rfl (by decide) (by decide) (Nat.le_of_ble_eq_true rfl) dX2_pairOfWay_123 rfl ?_
          have hq5 := tKeys_q T y (by assumption) (by omega)
          refine r_imul C dX2_pairOfWay_126 ?_
          refine r_aload_n C dX2_pairOfWay_127 hl 0 rfl ?_
          refine r_iload_n C dX2_pairOfWay_128 hl 1 rfl ?_
          refine r_callR (rest := [.int (iI (10 * ((t_keys T) y / 64)))]) (r := .int (iI ((t_keys T) y % 8))) C hl.1 (c_X2_factOf l g o ad T y (by assumption) (show 0 ≤ y ∧ y < 1536 by omega)) v_X2_83 rfl hH 0 rfl rfl rfl (by decide) (by decide) (Nat.le_of_ble_eq_true rfl) dX2_pairOfWay_129 rfl ?_
          have hq6 := tKeys_q T y (by assumption) (by omega)
          refine r_iadd C dX2_pairOfWay_132 ?_
          exact MR_iret C hrt hlk dX2_pairOfWay_133 (iv (by have hE : tPair T 1536 true x i = y := (by rw [hq]; first | rfl | ((first | rw [tPair_t] | rw [tPair_f]); first | exact if_pos (by omega) | exact (if_neg (by omega)).trans ((if_neg (by omega)).trans (if_neg (by omega))))); unfold tPairOf; rw [hE]))
        · exact absurd hc4 (by omega)
    | succ k14 ih14 =>
      intro w y left stp hkk hst hy hl0 hq ls hl
      cases w
      · skip
        have hl : lv_has ls 9 [(0, .ref (o)), (3, .int (iI (y))), (4, .int (iI (left))), (5, .ref (ad 6)), (6, .int (iI (stp)))] := hl
        refine r_iload C dX2_pairOfWay_14 hl 4 rfl ?_
        refine r_sipush (z := 1536) C dX2_pairOfWay_16 rfl ?_
        refine r_icmp_ge C 119 dX2_pairOfWay_19 (by decide) (by omega) (by omega) (fun hc7 => ?_) (fun hc7 => ?_)
        · exact absurd hc7 (by omega)
        · skip
          refine r_aload C dX2_pairOfWay_22 hl 3 rfl ?_
          refine r_iload_n C dX2_pairOfWay_24 hl 1 rfl ?_
          refine r_iald (f := t_inner T) C hH 7 rfl (Nat.le_of_ble_eq_true rfl) (by omega) dX2_pairOfWay_25 ?_
          have hr8 := hT_inner y (by omega) (by omega)
          refine r_iconst (z := 1) C dX2_pairOfWay_26 rfl ?_
          refine r_icmp_le C 119 dX2_pairOfWay_27 (by decide) (by omega) (by omega) (fun hc9 => ?_) (fun hc9 => ?_)
          · skip
            refine r_bipush (z := 10) C dX2_pairOfWay_119 rfl ?_
            refine r_aload_n C dX2_pairOfWay_121 hl 0 rfl ?_
            refine r_iload_n C dX2_pairOfWay_122 hl 1 rfl ?_
            refine r_callR (rest := [.int (iI (10))]) (r := .int (iI ((t_keys T) y / 64))) C hl.1 (c_X2_nodeOf l g o ad T y (by assumption) (show 0 ≤ y ∧ y < 1536 by omega)) v_X2_79 rfl hH 0 rfl rfl rfl (by decide) (by decide) (Nat.le_of_ble_eq_true rfl) dX2_pairOfWay_123 rfl ?_
            have hq10 := tKeys_q T y (by assumption) (by omega)
            refine r_imul C dX2_pairOfWay_126 ?_
            refine r_aload_n C dX2_pairOfWay_127 hl 0 rfl ?_
            refine r_iload_n C dX2_pairOfWay_128 hl 1 rfl ?_
            refine r_callR (rest := [.int (iI (10 * ((t_keys T) y / 64)))]) (r := .int (iI ((t_keys T) y % 8))) C hl.1 (c_X2_factOf l g o ad T y (by assumption) (show 0 ≤ y ∧ y < 1536 by omega)) v_X2_83 rfl hH 0 rfl rfl rfl (by decide) (by decide) (Nat.le_of_ble_eq_true rfl) dX2_pairOfWay_129 rfl ?_
            have hq11 := tKeys_q T y (by assumption) (by omega)
            refine r_iadd C dX2_pairOfWay_132 ?_
            exact MR_iret C hrt hlk dX2_pairOfWay_133 (iv (by have hE : tPair T 1536 true x i = y := (by rw [hq]; first | rfl | ((first | rw [tPair_t] | rw [tPair_f]); first | exact if_pos (by omega) | exact (if_neg (by omega)).trans ((if_neg (by omega)).trans (if_neg (by omega))))); unfold tPairOf; rw [hE]))
          · skip
            refine r_aload_n C dX2_pairOfWay_30 hl 0 rfl ?_
            refine r_get (v := .ref (ad 3)) C f_X2_35 hH 0 rfl rfl dX2_pairOfWay_31 ?_
            refine r_iload_n C dX2_pairOfWay_34 hl 1 rfl ?_
            refine r_iald (f := t_before T) C hH 4 rfl (Nat.le_of_ble_eq_true rfl) (by omega) dX2_pairOfWay_35 ?_
            have hr12 := hT_before y (by omega) (by omega)
            refine r_iconst (z := -1) C dX2_pairOfWay_36 rfl ?_
            refine r_icmp_eq C 119 dX2_pairOfWay_37 (by decide) (by omega) (by omega) (fun hc13 => ?_) (fun hc13 => ?_)
            · skip
              refine r_bipush (z := 10) C dX2_pairOfWay_119 rfl ?_
              refine r_aload_n C dX2_pairOfWay_121 hl 0 rfl ?_
              refine r_iload_n C dX2_pairOfWay_122 hl 1 rfl ?_
              refine r_callR (rest := [.int (iI (10))]) (r := .int (iI ((t_keys T) y / 64))) C hl.1 (c_X2_nodeOf l g o ad T y (by assumption) (show 0 ≤ y ∧ y < 1536 by omega)) v_X2_79 rfl hH 0 rfl rfl rfl (by decide) (by decide) (Nat.le_of_ble_eq_true rfl) dX2_pairOfWay_123 rfl ?_
              have hq14 := tKeys_q T y (by assumption) (by omega)
              refine r_imul C dX2_pairOfWay_126 ?_
              refine r_aload_n C dX2_pairOfWay_127 hl 0 rfl ?_
              refine r_iload_n C dX2_pairOfWay_128 hl 1 rfl ?_
              refine r_callR (rest := [.int (iI (10 * ((t_keys T) y / 64)))]) (r := .int (iI ((t_keys T) y % 8))) C hl.1 (c_X2_factOf l g o ad T y (by assumption) (show 0 ≤ y ∧ y < 1536 by omega)) v_X2_83 rfl hH 0 rfl rfl rfl (by decide) (by decide) (Nat.le_of_ble_eq_true rfl) dX2_pairOfWay_129 rfl ?_
              have hq15 := tKeys_q T y (by assumption) (by omega)
              refine r_iadd C dX2_pairOfWay_132 ?_
              exact MR_iret C hrt hlk dX2_pairOfWay_133 (iv (by have hE : tPair T 1536 true x i = y := (by rw [hq]; first | rfl | ((first | rw [tPair_t] | rw [tPair_f]); first | exact if_pos (by omega) | exact (if_neg (by omega)).trans ((if_neg (by omega)).trans (if_neg (by omega))))); unfold tPairOf; rw [hE]))
            · skip
              refine r_aload C dX2_pairOfWay_40 hl 3 rfl ?_
              refine r_aload_n C dX2_pairOfWay_42 hl 0 rfl ?_
              refine r_get (v := .ref (ad 3)) C f_X2_35 hH 0 rfl rfl dX2_pairOfWay_43 ?_
              refine r_iload_n C dX2_pairOfWay_46 hl 1 rfl ?_
              refine r_iald (f := t_before T) C hH 4 rfl (Nat.le_of_ble_eq_true rfl) (by omega) dX2_pairOfWay_47 ?_
              have hr16 := hT_before y (by omega) (by omega)
              refine r_iald (f := t_inner T) C hH 7 rfl (Nat.le_of_ble_eq_true rfl) (by omega) dX2_pairOfWay_48 ?_
              have hr17 := hT_inner (t_before T y) (by omega) (by omega)
              refine r_istore C [(7, .int (iI (t_inner T (t_before T y)))), (0, .ref (o)), (3, .int (iI (y))), (4, .int (iI (left))), (5, .ref (ad 6)), (6, .int (iI (stp)))] dX2_pairOfWay_49 hl (by decide) rfl (fun ls hl => ?_)
              refine r_aload_n C dX2_pairOfWay_51 hl 1 rfl ?_
              refine r_get (v := .ref (ad 4)) C f_X2_38 hH 0 rfl rfl dX2_pairOfWay_52 ?_
              refine r_iload_n C dX2_pairOfWay_55 hl 2 rfl ?_
              refine r_iald (f := t_through T) C hH 5 rfl (Nat.le_of_ble_eq_true rfl) (by omega) dX2_pairOfWay_56 ?_
              have hr18 := hT_through y (by omega) (by omega)
              refine r_istore C [(8, .int (iI (t_through T y))), (7, .int (iI (t_inner T (t_before T y)))), (0, .ref (o)), (3, .int (iI (y))), (4, .int (iI (left))), (5, .ref (ad 6)), (6, .int (iI (stp)))] dX2_pairOfWay_57 hl (by decide) rfl (fun ls hl => ?_)
              refine r_iload C dX2_pairOfWay_59 hl 4 rfl ?_
              refine r_iload C dX2_pairOfWay_61 hl 1 rfl ?_
              refine r_icmp_ge C 76 dX2_pairOfWay_63 (by decide) (by omega) (by omega) (fun hc19 => ?_) (fun hc19 => ?_)
              · skip
                refine r_iload C dX2_pairOfWay_76 hl 0 rfl ?_
                refine r_iconst (z := -1) C dX2_pairOfWay_78 rfl ?_
                refine r_icmp_eq C 119 dX2_pairOfWay_79 (by decide) (by omega) (by omega) (fun hc20 => ?_) (fun hc20 => ?_)
                · skip
                  refine r_bipush (z := 10) C dX2_pairOfWay_119 rfl ?_
                  refine r_aload_n C dX2_pairOfWay_121 hl 2 rfl ?_
                  refine r_iload_n C dX2_pairOfWay_122 hl 3 rfl ?_
                  refine r_callR (rest := [.int (iI (10))]) (r := .int (iI ((t_keys T) y / 64))) C hl.1 (c_X2_nodeOf l g o ad T y (by assumption) (show 0 ≤ y ∧ y < 1536 by omega)) v_X2_79 rfl hH 0 rfl rfl rfl (by decide) (by decide) (Nat.le_of_ble_eq_true rfl) dX2_pairOfWay_123 rfl ?_
                  have hq21 := tKeys_q T y (by assumption) (by omega)
                  refine r_imul C dX2_pairOfWay_126 ?_
                  refine r_aload_n C dX2_pairOfWay_127 hl 2 rfl ?_
                  refine r_iload_n C dX2_pairOfWay_128 hl 3 rfl ?_
                  refine r_callR (rest := [.int (iI (10 * ((t_keys T) y / 64)))]) (r := .int (iI ((t_keys T) y % 8))) C hl.1 (c_X2_factOf l g o ad T y (by assumption) (show 0 ≤ y ∧ y < 1536 by omega)) v_X2_83 rfl hH 0 rfl rfl rfl (by decide) (by decide) (Nat.le_of_ble_eq_true rfl) dX2_pairOfWay_129 rfl ?_
                  have hq22 := tKeys_q T y (by assumption) (by omega)
                  refine r_iadd C dX2_pairOfWay_132 ?_
                  exact MR_iret C hrt hlk dX2_pairOfWay_133 (iv (by have hE : tPair T 1536 true x i = y := (by rw [hq]; first | rfl | ((first | rw [tPair_t] | rw [tPair_f]); first | exact if_pos (by omega) | exact (if_neg (by omega)).trans ((if_neg (by omega)).trans (if_neg (by omega))))); unfold tPairOf; rw [hE]))
                · skip
                  refine r_iload C dX2_pairOfWay_82 hl 4 rfl ?_
                  refine r_iload C dX2_pairOfWay_84 hl 1 rfl ?_
                  refine r_isub C dX2_pairOfWay_86 ?_
                  refine r_aload_n C dX2_pairOfWay_87 hl 2 rfl ?_
                  refine r_get (v := .ref (ad 6)) C f_X2_44 hH 0 rfl rfl dX2_pairOfWay_88 ?_
                  refine r_iload C dX2_pairOfWay_91 hl 0 rfl ?_
                  refine r_iald (f := t_inner T) C hH 7 rfl (Nat.le_of_ble_eq_true rfl) (by omega) dX2_pairOfWay_93 ?_
                  have hr23 := hT_inner (t_through T y) (by omega) (by omega)
                  refine r_icmp_ge C 119 dX2_pairOfWay_94 (by decide) (by omega) (by omega) (fun hc24 => ?_) (fun hc24 => ?_)
                  · skip
                    refine r_bipush (z := 10) C dX2_pairOfWay_119 rfl ?_
                    refine r_aload_n C dX2_pairOfWay_121 hl 2 rfl ?_
                    refine r_iload_n C dX2_pairOfWay_122 hl 3 rfl ?_
                    refine r_callR (rest := [.int (iI (10))]) (r := .int (iI ((t_keys T) y / 64))) C hl.1 (c_X2_nodeOf l g o ad T y (by assumption) (show 0 ≤ y ∧ y < 1536 by omega)) v_X2_79 rfl hH 0 rfl rfl rfl (by decide) (by decide) (Nat.le_of_ble_eq_true rfl) dX2_pairOfWay_123 rfl ?_
                    have hq25 := tKeys_q T y (by assumption) (by omega)
                    refine r_imul C dX2_pairOfWay_126 ?_
                    refine r_aload_n C dX2_pairOfWay_127 hl 2 rfl ?_
                    refine r_iload_n C dX2_pairOfWay_128 hl 3 rfl ?_
                    refine r_callR (rest := [.int (iI (10 * ((t_keys T) y / 64)))]) (r := .int (iI ((t_keys T) y % 8))) C hl.1 (c_X2_factOf l g o ad T y (by assumption) (show 0 ≤ y ∧ y < 1536 by omega)) v_X2_83 rfl hH 0 rfl rfl rfl (by decide) (by decide) (Nat.le_of_ble_eq_true rfl) dX2_pairOfWay_129 rfl ?_
                    have hq26 := tKeys_q T y (by assumption) (by omega)
                    refine r_iadd C dX2_pairOfWay_132 ?_
                    exact MR_iret C hrt hlk dX2_pairOfWay_133 (iv (by have hE : tPair T 1536 true x i = y := (by rw [hq]; first | rfl | ((first | rw [tPair_t] | rw [tPair_f]); first | exact if_pos (by omega) | exact (if_neg (by omega)).trans ((if_neg (by omega)).trans (if_neg (by omega))))); unfold tPairOf; rw [hE]))
                  · skip
                    refine r_iload C dX2_pairOfWay_97 hl 4 rfl ?_
                    refine r_iload C dX2_pairOfWay_99 hl 1 rfl ?_
                    refine r_isub C dX2_pairOfWay_101 ?_
                    refine r_istore C [(4, .int (iI (left - (t_inner T (t_before T y))))), (8, .int (iI (t_through T y))), (7, .int (iI (t_inner T (t_before T y)))), (0, .ref (o)), (3, .int (iI (y))), (5, .ref (ad 6)), (6, .int (iI (stp)))] dX2_pairOfWay_102 hl (by decide) rfl (fun ls hl => ?_)
                    refine r_iload C dX2_pairOfWay_104 hl 1 rfl ?_
                    refine r_istore_n C [(3, .int (iI (t_through T y))), (4, .int (iI (left - (t_inner T (t_before T y))))), (8, .int (iI (t_through T y))), (7, .int (iI (t_inner T (t_before T y)))), (0, .ref (o)), (5, .ref (ad 6)), (6, .int (iI (stp)))] dX2_pairOfWay_106 hl (by decide) rfl (fun ls hl => ?_)
                    refine r_aload_n C dX2_pairOfWay_107 hl 4 rfl ?_
                    refine r_get (v := .ref (ad 6)) C f_X2_44 hH 0 rfl rfl dX2_pairOfWay_108 ?_
                    refine r_astore C [(5, .ref (ad 6)), (3, .int (iI (t_through T y))), (4, .int (iI (left - (t_inner T (t_before T y))))), (8, .int (iI (t_through T y))), (7, .int (iI (t_inner T (t_before T y)))), (0, .ref (o)), (6, .int (iI (stp)))] dX2_pairOfWay_111 hl (by decide) rfl (fun ls hl => ?_)
                    refine r_iinc (v := stp + 1) C [(6, .int (iI (stp + 1))), (5, .ref (ad 6)), (3, .int (iI (t_through T y))), (4, .int (iI (left - (t_inner T (t_before T y))))), (8, .int (iI (t_through T y))), (7, .int (iI (t_inner T (t_before T y)))), (0, .ref (o))] dX2_pairOfWay_113 hl 6 rfl (by decide) (by omega) rfl (fun ls hl => ?_)
                    refine r_goto C 14 dX2_pairOfWay_116 (by decide) ?_
                    exact ih14 false (t_through T y) (left - (t_inner T (t_before T y))) _ (by omega) (by omega) (by omega) (by omega) (by rw [hq]; (first | rw [tPair_t] | rw [tPair_f]); first | exact (if_neg (by omega)).trans (if_pos (by omega)) | exact (if_neg (by omega)).trans ((if_neg (by omega)).trans (if_pos (by omega)))) ls (lv_sub hl [6, 2, 3, 1, 0] rfl)
              · skip
                refine r_aload_n C dX2_pairOfWay_66 hl 2 rfl ?_
                refine r_get (v := .ref (ad 3)) C f_X2_35 hH 0 rfl rfl dX2_pairOfWay_67 ?_
                refine r_iload_n C dX2_pairOfWay_70 hl 3 rfl ?_
                refine r_iald (f := t_before T) C hH 4 rfl (Nat.le_of_ble_eq_true rfl) (by omega) dX2_pairOfWay_71 ?_
                have hr27 := hT_before y (by omega) (by omega)
                refine r_istore_n C [(3, .int (iI (t_before T y))), (8, .int (iI (t_through T y))), (7, .int (iI (t_inner T (t_before T y)))), (0, .ref (o)), (4, .int (iI (left))), (5, .ref (ad 6)), (6, .int (iI (stp)))] dX2_pairOfWay_72 hl (by decide) rfl (fun ls hl => ?_)
                refine r_goto C 113 dX2_pairOfWay_73 (by decide) ?_
                refine r_iinc (v := stp + 1) C [(6, .int (iI (stp + 1))), (3, .int (iI (t_before T y))), (8, .int (iI (t_through T y))), (7, .int (iI (t_inner T (t_before T y)))), (0, .ref (o)), (4, .int (iI (left))), (5, .ref (ad 6))] dX2_pairOfWay_113 hl 6 rfl (by decide) (by omega) rfl (fun ls hl => ?_)
                refine r_goto C 14 dX2_pairOfWay_116 (by decide) ?_
                exact ih14 false (t_before T y) left _ (by omega) (by omega) (by omega) (by omega) (by rw [hq]; (first | rw [tPair_t] | rw [tPair_f]); first | exact (if_neg (by omega)).trans (if_pos (by omega)) | exact (if_neg (by omega)).trans ((if_neg (by omega)).trans (if_pos (by omega)))) ls (lv_sub hl [4, 1, 5, 6, 0] rfl)
      · skip
        have hl : lv_has ls 9 [(0, .ref (o)), (3, .int (iI (y))), (4, .int (iI (left))), (5, .ref (ad 5)), (6, .int (iI (stp)))] := hl
        refine r_iload C dX2_pairOfWay_14 hl 4 rfl ?_
        refine r_sipush (z := 1536) C dX2_pairOfWay_16 rfl ?_
        refine r_icmp_ge C 119 dX2_pairOfWay_19 (by decide) (by omega) (by omega) (fun hc28 => ?_) (fun hc28 => ?_)
        · exact absurd hc28 (by omega)
        · skip
          refine r_aload C dX2_pairOfWay_22 hl 3 rfl ?_
          refine r_iload_n C dX2_pairOfWay_24 hl 1 rfl ?_
          refine r_iald (f := t_way T) C hH 6 rfl (Nat.le_of_ble_eq_true rfl) (by omega) dX2_pairOfWay_25 ?_
          have hr29 := hT_way y (by omega) (by omega)
          refine r_iconst (z := 1) C dX2_pairOfWay_26 rfl ?_
          refine r_icmp_le C 119 dX2_pairOfWay_27 (by decide) (by omega) (by omega) (fun hc30 => ?_) (fun hc30 => ?_)
          · skip
            refine r_bipush (z := 10) C dX2_pairOfWay_119 rfl ?_
            refine r_aload_n C dX2_pairOfWay_121 hl 0 rfl ?_
            refine r_iload_n C dX2_pairOfWay_122 hl 1 rfl ?_
            refine r_callR (rest := [.int (iI (10))]) (r := .int (iI ((t_keys T) y / 64))) C hl.1 (c_X2_nodeOf l g o ad T y (by assumption) (show 0 ≤ y ∧ y < 1536 by omega)) v_X2_79 rfl hH 0 rfl rfl rfl (by decide) (by decide) (Nat.le_of_ble_eq_true rfl) dX2_pairOfWay_123 rfl ?_
            have hq31 := tKeys_q T y (by assumption) (by omega)
            refine r_imul C dX2_pairOfWay_126 ?_
            refine r_aload_n C dX2_pairOfWay_127 hl 0 rfl ?_
            refine r_iload_n C dX2_pairOfWay_128 hl 1 rfl ?_
            refine r_callR (rest := [.int (iI (10 * ((t_keys T) y / 64)))]) (r := .int (iI ((t_keys T) y % 8))) C hl.1 (c_X2_factOf l g o ad T y (by assumption) (show 0 ≤ y ∧ y < 1536 by omega)) v_X2_83 rfl hH 0 rfl rfl rfl (by decide) (by decide) (Nat.le_of_ble_eq_true rfl) dX2_pairOfWay_129 rfl ?_
            have hq32 := tKeys_q T y (by assumption) (by omega)
            refine r_iadd C dX2_pairOfWay_132 ?_
            exact MR_iret C hrt hlk dX2_pairOfWay_133 (iv (by have hE : tPair T 1536 true x i = y := (by rw [hq]; first | rfl | ((first | rw [tPair_t] | rw [tPair_f]); first | exact if_pos (by omega) | exact (if_neg (by omega)).trans ((if_neg (by omega)).trans (if_neg (by omega))))); unfold tPairOf; rw [hE]))
          · skip
            refine r_aload_n C dX2_pairOfWay_30 hl 0 rfl ?_
            refine r_get (v := .ref (ad 3)) C f_X2_35 hH 0 rfl rfl dX2_pairOfWay_31 ?_
            refine r_iload_n C dX2_pairOfWay_34 hl 1 rfl ?_
            refine r_iald (f := t_before T) C hH 4 rfl (Nat.le_of_ble_eq_true rfl) (by omega) dX2_pairOfWay_35 ?_
            have hr33 := hT_before y (by omega) (by omega)
            refine r_iconst (z := -1) C dX2_pairOfWay_36 rfl ?_
            refine r_icmp_eq C 119 dX2_pairOfWay_37 (by decide) (by omega) (by omega) (fun hc34 => ?_) (fun hc34 => ?_)
            · skip
              refine r_bipush (z := 10) C dX2_pairOfWay_119 rfl ?_
              refine r_aload_n C dX2_pairOfWay_121 hl 0 rfl ?_
              refine r_iload_n C dX2_pairOfWay_122 hl 1 rfl ?_
              refine r_callR (rest := [.int (iI (10))]) (r := .int (iI ((t_keys T) y / 64))) C hl.1 (c_X2_nodeOf l g o ad T y (by assumption) (show 0 ≤ y ∧ y < 1536 by omega)) v_X2_79 rfl hH 0 rfl rfl rfl (by decide) (by decide) (Nat.le_of_ble_eq_true rfl) dX2_pairOfWay_123 rfl ?_
              have hq35 := tKeys_q T y (by assumption) (by omega)
              refine r_imul C dX2_pairOfWay_126 ?_
              refine r_aload_n C dX2_pairOfWay_127 hl 0 rfl ?_
              refine r_iload_n C dX2_pairOfWay_128 hl 1 rfl ?_
              refine r_callR (rest := [.int (iI (10 * ((t_keys T) y / 64)))]) (r := .int (iI ((t_keys T) y % 8))) C hl.1 (c_X2_factOf l g o ad T y (by assumption) (show 0 ≤ y ∧ y < 1536 by omega)) v_X2_83 rfl hH 0 rfl rfl rfl (by decide) (by decide) (Nat.le_of_ble_eq_true rfl) dX2_pairOfWay_129 rfl ?_
              have hq36 := tKeys_q T y (by assumption) (by omega)
              refine r_iadd C dX2_pairOfWay_132 ?_
              exact MR_iret C hrt hlk dX2_pairOfWay_133 (iv (by have hE : tPair T 1536 true x i = y := (by rw [hq]; first | rfl | ((first | rw [tPair_t] | rw [tPair_f]); first | exact if_pos (by omega) | exact (if_neg (by omega)).trans ((if_neg (by omega)).trans (if_neg (by omega))))); unfold tPairOf; rw [hE]))
            · skip
              refine r_aload C dX2_pairOfWay_40 hl 3 rfl ?_
              refine r_aload_n C dX2_pairOfWay_42 hl 0 rfl ?_
              refine r_get (v := .ref (ad 3)) C f_X2_35 hH 0 rfl rfl dX2_pairOfWay_43 ?_
              refine r_iload_n C dX2_pairOfWay_46 hl 1 rfl ?_
              refine r_iald (f := t_before T) C hH 4 rfl (Nat.le_of_ble_eq_true rfl) (by omega) dX2_pairOfWay_47 ?_
              have hr37 := hT_before y (by omega) (by omega)
              refine r_iald (f := t_way T) C hH 6 rfl (Nat.le_of_ble_eq_true rfl) (by omega) dX2_pairOfWay_48 ?_
              have hr38 := hT_way (t_before T y) (by omega) (by omega)
              refine r_istore C [(7, .int (iI (t_way T (t_before T y)))), (0, .ref (o)), (3, .int (iI (y))), (4, .int (iI (left))), (5, .ref (ad 5)), (6, .int (iI (stp)))] dX2_pairOfWay_49 hl (by decide) rfl (fun ls hl => ?_)
              refine r_aload_n C dX2_pairOfWay_51 hl 1 rfl ?_
              refine r_get (v := .ref (ad 4)) C f_X2_38 hH 0 rfl rfl dX2_pairOfWay_52 ?_
              refine r_iload_n C dX2_pairOfWay_55 hl 2 rfl ?_
              refine r_iald (f := t_through T) C hH 5 rfl (Nat.le_of_ble_eq_true rfl) (by omega) dX2_pairOfWay_56 ?_
              have hr39 := hT_through y (by omega) (by omega)
              refine r_istore C [(8, .int (iI (t_through T y))), (7, .int (iI (t_way T (t_before T y)))), (0, .ref (o)), (3, .int (iI (y))), (4, .int (iI (left))), (5, .ref (ad 5)), (6, .int (iI (stp)))] dX2_pairOfWay_57 hl (by decide) rfl (fun ls hl => ?_)
              refine r_iload C dX2_pairOfWay_59 hl 4 rfl ?_
              refine r_iload C dX2_pairOfWay_61 hl 1 rfl ?_
              refine r_icmp_ge C 76 dX2_pairOfWay_63 (by decide) (by omega) (by omega) (fun hc40 => ?_) (fun hc40 => ?_)
              · skip
                refine r_iload C dX2_pairOfWay_76 hl 0 rfl ?_
                refine r_iconst (z := -1) C dX2_pairOfWay_78 rfl ?_
                refine r_icmp_eq C 119 dX2_pairOfWay_79 (by decide) (by omega) (by omega) (fun hc41 => ?_) (fun hc41 => ?_)
                · skip
                  refine r_bipush (z := 10) C dX2_pairOfWay_119 rfl ?_
                  refine r_aload_n C dX2_pairOfWay_121 hl 2 rfl ?_
                  refine r_iload_n C dX2_pairOfWay_122 hl 3 rfl ?_
                  refine r_callR (rest := [.int (iI (10))]) (r := .int (iI ((t_keys T) y / 64))) C hl.1 (c_X2_nodeOf l g o ad T y (by assumption) (show 0 ≤ y ∧ y < 1536 by omega)) v_X2_79 rfl hH 0 rfl rfl rfl (by decide) (by decide) (Nat.le_of_ble_eq_true rfl) dX2_pairOfWay_123 rfl ?_
                  have hq42 := tKeys_q T y (by assumption) (by omega)
                  refine r_imul C dX2_pairOfWay_126 ?_
                  refine r_aload_n C dX2_pairOfWay_127 hl 2 rfl ?_
                  refine r_iload_n C dX2_pairOfWay_128 hl 3 rfl ?_
                  refine r_callR (rest := [.int (iI (10 * ((t_keys T) y / 64)))]) (r := .int (iI ((t_keys T) y % 8))) C hl.1 (c_X2_factOf l g o ad T y (by assumption) (show 0 ≤ y ∧ y < 1536 by omega)) v_X2_83 rfl hH 0 rfl rfl rfl (by decide) (by decide) (Nat.le_of_ble_eq_true rfl) dX2_pairOfWay_129 rfl ?_
                  have hq43 := tKeys_q T y (by assumption) (by omega)
                  refine r_iadd C dX2_pairOfWay_132 ?_
                  exact MR_iret C hrt hlk dX2_pairOfWay_133 (iv (by have hE : tPair T 1536 true x i = y := (by rw [hq]; first | rfl | ((first | rw [tPair_t] | rw [tPair_f]); first | exact if_pos (by omega) | exact (if_neg (by omega)).trans ((if_neg (by omega)).trans (if_neg (by omega))))); unfold tPairOf; rw [hE]))
                · skip
                  refine r_iload C dX2_pairOfWay_82 hl 4 rfl ?_
                  refine r_iload C dX2_pairOfWay_84 hl 1 rfl ?_
                  refine r_isub C dX2_pairOfWay_86 ?_
                  refine r_aload_n C dX2_pairOfWay_87 hl 2 rfl ?_
                  refine r_get (v := .ref (ad 6)) C f_X2_44 hH 0 rfl rfl dX2_pairOfWay_88 ?_
                  refine r_iload C dX2_pairOfWay_91 hl 0 rfl ?_
                  refine r_iald (f := t_inner T) C hH 7 rfl (Nat.le_of_ble_eq_true rfl) (by omega) dX2_pairOfWay_93 ?_
                  have hr44 := hT_inner (t_through T y) (by omega) (by omega)
                  refine r_icmp_ge C 119 dX2_pairOfWay_94 (by decide) (by omega) (by omega) (fun hc45 => ?_) (fun hc45 => ?_)
                  · skip
                    refine r_bipush (z := 10) C dX2_pairOfWay_119 rfl ?_
                    refine r_aload_n C dX2_pairOfWay_121 hl 2 rfl ?_
                    refine r_iload_n C dX2_pairOfWay_122 hl 3 rfl ?_
                    refine r_callR (rest := [.int (iI (10))]) (r := .int (iI ((t_keys T) y / 64))) C hl.1 (c_X2_nodeOf l g o ad T y (by assumption) (show 0 ≤ y ∧ y < 1536 by omega)) v_X2_79 rfl hH 0 rfl rfl rfl (by decide) (by decide) (Nat.le_of_ble_eq_true rfl) dX2_pairOfWay_123 rfl ?_
                    have hq46 := tKeys_q T y (by assumption) (by omega)
                    refine r_imul C dX2_pairOfWay_126 ?_
                    refine r_aload_n C dX2_pairOfWay_127 hl 2 rfl ?_
                    refine r_iload_n C dX2_pairOfWay_128 hl 3 rfl ?_
                    refine r_callR (rest := [.int (iI (10 * ((t_keys T) y / 64)))]) (r := .int (iI ((t_keys T) y % 8))) C hl.1 (c_X2_factOf l g o ad T y (by assumption) (show 0 ≤ y ∧ y < 1536 by omega)) v_X2_83 rfl hH 0 rfl rfl rfl (by decide) (by decide) (Nat.le_of_ble_eq_true rfl) dX2_pairOfWay_129 rfl ?_
                    have hq47 := tKeys_q T y (by assumption) (by omega)
                    refine r_iadd C dX2_pairOfWay_132 ?_
                    exact MR_iret C hrt hlk dX2_pairOfWay_133 (iv (by have hE : tPair T 1536 true x i = y := (by rw [hq]; first | rfl | ((first | rw [tPair_t] | rw [tPair_f]); first | exact if_pos (by omega) | exact (if_neg (by omega)).trans ((if_neg (by omega)).trans (if_neg (by omega))))); unfold tPairOf; rw [hE]))
                  · skip
                    refine r_iload C dX2_pairOfWay_97 hl 4 rfl ?_
                    refine r_iload C dX2_pairOfWay_99 hl 1 rfl ?_
                    refine r_isub C dX2_pairOfWay_101 ?_
                    refine r_istore C [(4, .int (iI (left - (t_way T (t_before T y))))), (8, .int (iI (t_through T y))), (7, .int (iI (t_way T (t_before T y)))), (0, .ref (o)), (3, .int (iI (y))), (5, .ref (ad 5)), (6, .int (iI (stp)))] dX2_pairOfWay_102 hl (by decide) rfl (fun ls hl => ?_)
                    refine r_iload C dX2_pairOfWay_104 hl 1 rfl ?_
                    refine r_istore_n C [(3, .int (iI (t_through T y))), (4, .int (iI (left - (t_way T (t_before T y))))), (8, .int (iI (t_through T y))), (7, .int (iI (t_way T (t_before T y)))), (0, .ref (o)), (5, .ref (ad 5)), (6, .int (iI (stp)))] dX2_pairOfWay_106 hl (by decide) rfl (fun ls hl => ?_)
                    refine r_aload_n C dX2_pairOfWay_107 hl 4 rfl ?_
                    refine r_get (v := .ref (ad 6)) C f_X2_44 hH 0 rfl rfl dX2_pairOfWay_108 ?_
                    refine r_astore C [(5, .ref (ad 6)), (3, .int (iI (t_through T y))), (4, .int (iI (left - (t_way T (t_before T y))))), (8, .int (iI (t_through T y))), (7, .int (iI (t_way T (t_before T y)))), (0, .ref (o)), (6, .int (iI (stp)))] dX2_pairOfWay_111 hl (by decide) rfl (fun ls hl => ?_)
                    refine r_iinc (v := stp + 1) C [(6, .int (iI (stp + 1))), (5, .ref (ad 6)), (3, .int (iI (t_through T y))), (4, .int (iI (left - (t_way T (t_before T y))))), (8, .int (iI (t_through T y))), (7, .int (iI (t_way T (t_before T y)))), (0, .ref (o))] dX2_pairOfWay_113 hl 6 rfl (by decide) (by omega) rfl (fun ls hl => ?_)
                    refine r_goto C 14 dX2_pairOfWay_116 (by decide) ?_
                    exact ih14 false (t_through T y) (left - (t_way T (t_before T y))) _ (by omega) (by omega) (by omega) (by omega) (by rw [hq]; (first | rw [tPair_t] | rw [tPair_f]); first | exact (if_neg (by omega)).trans (if_pos (by omega)) | exact (if_neg (by omega)).trans ((if_neg (by omega)).trans (if_pos (by omega)))) ls (lv_sub hl [6, 2, 3, 1, 0] rfl)
              · skip
                refine r_aload_n C dX2_pairOfWay_66 hl 2 rfl ?_
                refine r_get (v := .ref (ad 3)) C f_X2_35 hH 0 rfl rfl dX2_pairOfWay_67 ?_
                refine r_iload_n C dX2_pairOfWay_70 hl 3 rfl ?_
                refine r_iald (f := t_before T) C hH 4 rfl (Nat.le_of_ble_eq_true rfl) (by omega) dX2_pairOfWay_71 ?_
                have hr48 := hT_before y (by omega) (by omega)
                refine r_istore_n C [(3, .int (iI (t_before T y))), (8, .int (iI (t_through T y))), (7, .int (iI (t_way T (t_before T y)))), (0, .ref (o)), (4, .int (iI (left))), (5, .ref (ad 5)), (6, .int (iI (stp)))] dX2_pairOfWay_72 hl (by decide) rfl (fun ls hl => ?_)
                refine r_goto C 113 dX2_pairOfWay_73 (by decide) ?_
                refine r_iinc (v := stp + 1) C [(6, .int (iI (stp + 1))), (3, .int (iI (t_before T y))), (8, .int (iI (t_through T y))), (7, .int (iI (t_way T (t_before T y)))), (0, .ref (o)), (4, .int (iI (left))), (5, .ref (ad 5))] dX2_pairOfWay_113 hl 6 rfl (by decide) (by omega) rfl (fun ls hl => ?_)
                refine r_goto C 14 dX2_pairOfWay_116 (by decide) ?_
                exact ih14 true (t_before T y) left _ (by omega) (by omega) (by omega) (by omega) (by rw [hq]; (first | rw [tPair_t] | rw [tPair_f]); first | exact (if_neg (by omega)).trans (if_pos (by omega)) | exact (if_neg (by omega)).trans ((if_neg (by omega)).trans (if_pos (by omega)))) ls (lv_sub hl [4, 1, 5, 6, 0] rfl)
  exact hloop14 1536 true x i 0 (by omega) (by omega) (by omega) (by omega) rfl ls (lv_sub hl [4, 3, 2, 1, 0] rfl)

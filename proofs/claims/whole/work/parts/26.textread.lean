set_option maxHeartbeats 4000000 in
set_option maxRecDepth 100000 in
theorem c_X3_readOrder (l : Launch) (g : GG) (o : Nat) (ad : Nat → Nat) (X : Tx) (sl : Int) (hX : xOk X) (hsl : 0 ≤ sl ∧ sl ≤ 295) (hpl : x_place X < x_length X) : MW l g yX3_readOrder cX3_readOrder 5 (some .boolean) 2 43 [.ref (o), .int (iI (sl))] (xW g o ad X) (xW g o ad ((xOrder sl X).2)) (some (.int (iI (bI ((xOrder sl X).1 = true))))) := by
  refine MW_start (by decide) (Nat.le_of_ble_eq_true rfl) ?_
  intro zp ze zs zm zb zt zc A hAe C hrt hlk hW ls hl
  have hA : ∀ q, zs.heap.size ≤ q → A q := fun q h => by rw [hAe]; exact Or.inr h
  have hl : lv_has ls 5 [(0, .ref (o)), (1, .int (iI (sl)))] := hl
  obtain ⟨hX_length, hX_orders, hX_bytes, hX_parts, hX_place⟩ := id hX
  refine r_aload_n C dX3_readOrder_0 hl 0 rfl ?_
  refine r_get (v := .ref (ad 0)) C f_X3_18 hW.1 0 rfl rfl dX3_readOrder_1 ?_
  refine r_aload_n C dX3_readOrder_4 hl 0 rfl ?_
  refine r_get (v := .int (iI (x_place X))) C f_X3_25 hW.1 0 rfl rfl dX3_readOrder_5 ?_
  refine r_iald (f := x_bytes X) C hW.1 1 rfl (Nat.le_of_ble_eq_true rfl) (by omega) dX3_readOrder_8 ?_
  have hr1 := hX_bytes (x_place X) (by omega) (by omega)
  refine r_istore_n C [(2, .int (iI (x_bytes X (x_place X)))), (0, .ref (o)), (1, .int (iI (sl)))] dX3_readOrder_9 hl (by decide) rfl (fun ls hl => ?_)
  refine r_iload_n C dX3_readOrder_10 hl 0 rfl ?_
  refine r_callRS (rest := []) (r := .int (iI (xBehind (x_bytes X (x_place X))))) C hl.1 (c_X3_numbersBehind l g  (x_bytes X (x_place X)) (show rg (x_bytes X (x_place X)) by omega)) v_X3_35 rfl (fun k q h => by simp at h) (by decide) (by decide) (Nat.le_of_ble_eq_true rfl) dX3_readOrder_11 rfl ?_
  have hq2 := xBehind_r (x_bytes X (x_place X))
  refine r_istore_n C [(3, .int (iI (xBehind (x_bytes X (x_place X))))), (2, .int (iI (x_bytes X (x_place X)))), (0, .ref (o)), (1, .int (iI (sl)))] dX3_readOrder_14 hl (by decide) rfl (fun ls hl => ?_)
  refine r_iload_n C dX3_readOrder_15 hl 0 rfl ?_
  refine r_iconst (z := -1) C dX3_readOrder_16 rfl ?_
  refine r_icmp_ne C 22 dX3_readOrder_17 (by decide) (by omega) (by omega) (fun hc3 => ?_) (fun hc3 => ?_)
  · skip
    have hnb : ¬ (xBehind (x_bytes X (x_place X)) = -1) := by omega
    refine r_aload_n C dX3_readOrder_22 hl 2 rfl ?_
    refine r_get (v := .ref (ad 1)) C f_X3_22 hW.1 0 rfl rfl dX3_readOrder_23 ?_
    refine r_iload_n C dX3_readOrder_26 hl 3 rfl ?_
    refine r_iload_n C dX3_readOrder_27 hl 1 rfl ?_
    refine r_iast (f := x_parts X) C hW (xW g o ad (xs_parts X (up (x_parts X) sl (x_bytes X (x_place X))))) 2 rfl (Nat.le_of_ble_eq_true rfl) (by omega) rfl dX3_readOrder_28 (fun H locs hW => ?_)
    refine r_aload_n C dX3_readOrder_29 hl 2 rfl ?_
    refine r_dup C rfl dX3_readOrder_30 ?_
    refine r_get (v := .int (iI (x_place X))) C f_X3_25 hW.1 0 rfl rfl dX3_readOrder_31 ?_
    refine r_iconst (z := 1) C dX3_readOrder_34 rfl ?_
    refine r_iadd C dX3_readOrder_35 ?_
    refine r_put C f_X3_25 fp_3_4 hW (xW g o ad (xs_place (xs_parts X (up (x_parts X) sl (x_bytes X (x_place X)))) ((x_place X) + 1))) 0 rfl rfl rfl (Nat.le_of_ble_eq_true rfl) rfl dX3_readOrder_36 (fun H locs hW => ?_)
    refine r_iconst (z := 1) C dX3_readOrder_39 rfl ?_
    refine r_istore C [(4, .int (iI (1))), (3, .int (iI (xBehind (x_bytes X (x_place X))))), (2, .int (iI (x_bytes X (x_place X)))), (0, .ref (o)), (1, .int (iI (sl)))] dX3_readOrder_40 hl (by decide) rfl (fun ls hl => ?_)
    have hloop42 : ∀ (k42 : Nat) (i : Int) (Y : Tx) (hkk : i + k42 = xBehind (x_bytes X (x_place X)) + 1) (hi : 1 ≤ i) (hYo : xOk Y) (hYl : x_length Y = x_length X) (hYp : x_place Y ≤ x_length Y) (hq : xN sl X = xNums sl k42 i Y) (H : Heap) (locs : List Loc) (ls : Array Slot), HW g A zs.heap (xW g o ad Y) H locs → lv_has ls 5 [(0, .ref (o)), (1, .int (iI (sl))), (3, .int (iI (xBehind (x_bytes X (x_place X))))), (4, .int (iI (i)))] → W zp l ze (rmm 2 43) zs zm (List.toArray [.ref (o), .int (iI (sl))]) zb zt zc H locs 0 0 (MQ zb (QW g (xW g o ad X) (xW g o ad ((xOrder sl X).2)) zs.heap.size (some (.int (iI (bI ((xOrder sl X).1 = true)))))) (List.toArray [.ref (o), .int (iI (sl))]) zs 0 0 A) (F0 zm 42 ls []) := by
      intro k42
      induction k42 with
      | zero =>
        intro i Y hkk hi hYo hYl hYp hq H locs ls hW hl
        obtain ⟨hYo_length, hYo_orders, hYo_bytes, hYo_parts, hYo_place⟩ := id hYo
        refine r_iload C dX3_readOrder_42 hl 3 rfl ?_
        refine r_iload_n C dX3_readOrder_44 hl 2 rfl ?_
        refine r_icmp_gt C 71 dX3_readOrder_45 (by decide) (by omega) (by omega) (fun hc4 => ?_) (fun hc4 => ?_)
        · skip
          refine r_aload_n C dX3_readOrder_71 hl 0 rfl ?_
          refine r_callW (rest := []) (r := none) (wr := []) (ws2 := xW g o ad (xSkip Y)) (st1 := []) C hl.1 hW hA (c_X3_skipBlanks l g o ad Y  (by assumption) (show (x_place Y) ≤ (x_length Y) by omega)) v_X3_28 rfl [0, 1, 2] [] [0, 1, 2] rfl rfl (by decide) (by decide) rfl rfl 0 rfl rfl rfl (by decide) (by decide) (Nat.le_of_ble_eq_true rfl) dX3_readOrder_72 rfl rfl (fun H locs hW => ?_)
          have hS := xSkip_ok hYo (by omega)
          obtain ⟨hSo_length, hSo_orders, hSo_bytes, hSo_parts, hSo_place⟩ := id hS.1
          have hS1 := hS.2.1
          refine r_aload_n C dX3_readOrder_75 hl 0 rfl ?_
          refine r_get (v := .int (iI (x_place (xSkip Y)))) C f_X3_25 hW.1 0 rfl rfl dX3_readOrder_76 ?_
          refine r_aload_n C dX3_readOrder_79 hl 0 rfl ?_
          refine r_get (v := .int (iI (x_length (xSkip Y)))) C f_X3_9 hW.1 0 rfl rfl dX3_readOrder_80 ?_
          refine r_icmp_ge C 100 dX3_readOrder_83 (by decide) (by omega) (by omega) (fun hc5 => ?_) (fun hc5 => ?_)
          · skip
            refine r_iconst (z := 0) C dX3_readOrder_100 rfl ?_
            have hE : xOrder sl X = (false, xSkip Y) := by
              have hN : xN sl X = (true, Y) := hq
              unfold xOrder; rw [if_neg hnb, hN]; exact (if_pos rfl).trans (if_neg (by show ¬ (x_place (xSkip Y) < x_length (xSkip Y) ∧ x_bytes (xSkip Y) (x_place (xSkip Y)) = 59); omega))
            exact MW_zret (d := (xOrder sl X).1 = true) C hAe hrt hlk hW dX3_readOrder_101 (by rw [hE]; exact (bI_f Bool.false_ne_true).symm) rfl (by rw [hE])
          · skip
            refine r_aload_n C dX3_readOrder_86 hl 0 rfl ?_
            refine r_get (v := .ref (ad 0)) C f_X3_18 hW.1 0 rfl rfl dX3_readOrder_87 ?_
            refine r_aload_n C dX3_readOrder_90 hl 0 rfl ?_
            refine r_get (v := .int (iI (x_place (xSkip Y)))) C f_X3_25 hW.1 0 rfl rfl dX3_readOrder_91 ?_
            refine r_iald (f := x_bytes (xSkip Y)) C hW.1 1 rfl (Nat.le_of_ble_eq_true rfl) (by omega) dX3_readOrder_94 ?_
            have hr6 := hSo_bytes (x_place (xSkip Y)) (by omega) (by omega)
            refine r_bipush (z := 59) C dX3_readOrder_95 rfl ?_
            refine r_icmp_eq C 102 dX3_readOrder_97 (by decide) (by omega) (by omega) (fun hc7 => ?_) (fun hc7 => ?_)
            · skip
              refine r_aload_n C dX3_readOrder_102 hl 0 rfl ?_
              refine r_dup C rfl dX3_readOrder_103 ?_
              refine r_get (v := .int (iI (x_place (xSkip Y)))) C f_X3_25 hW.1 0 rfl rfl dX3_readOrder_104 ?_
              refine r_iconst (z := 1) C dX3_readOrder_107 rfl ?_
              refine r_iadd C dX3_readOrder_108 ?_
              refine r_put C f_X3_25 fp_3_4 hW (xW g o ad (xs_place (xSkip Y) ((x_place (xSkip Y)) + 1))) 0 rfl rfl rfl (Nat.le_of_ble_eq_true rfl) rfl dX3_readOrder_109 (fun H locs hW => ?_)
              refine r_iconst (z := 1) C dX3_readOrder_112 rfl ?_
              have hE : xOrder sl X = (true, xs_place (xSkip Y) ((x_place (xSkip Y)) + 1)) := by
                have hN : xN sl X = (true, Y) := hq
                unfold xOrder; rw [if_neg hnb, hN]; exact (if_pos rfl).trans (if_pos (show x_place (xSkip Y) < x_length (xSkip Y) ∧ x_bytes (xSkip Y) (x_place (xSkip Y)) = 59 by omega))
              exact MW_zret (d := (xOrder sl X).1 = true) C hAe hrt hlk hW dX3_readOrder_113 (by rw [hE]; exact (bI_t rfl).symm) rfl (by rw [hE])
            · skip
              refine r_iconst (z := 0) C dX3_readOrder_100 rfl ?_
              have hE : xOrder sl X = (false, xSkip Y) := by
                have hN : xN sl X = (true, Y) := hq
                unfold xOrder; rw [if_neg hnb, hN]; exact (if_pos rfl).trans (if_neg (by show ¬ (x_place (xSkip Y) < x_length (xSkip Y) ∧ x_bytes (xSkip Y) (x_place (xSkip Y)) = 59); omega))
              exact MW_zret (d := (xOrder sl X).1 = true) C hAe hrt hlk hW dX3_readOrder_101 (by rw [hE]; exact (bI_f Bool.false_ne_true).symm) rfl (by rw [hE])
        · exact absurd hc4 (by omega)
      | succ k42 ih42 =>
        intro i Y hkk hi hYo hYl hYp hq H locs ls hW hl
        obtain ⟨hYo_length, hYo_orders, hYo_bytes, hYo_parts, hYo_place⟩ := id hYo
        refine r_iload C dX3_readOrder_42 hl 3 rfl ?_
        refine r_iload_n C dX3_readOrder_44 hl 2 rfl ?_
        refine r_icmp_gt C 71 dX3_readOrder_45 (by decide) (by omega) (by omega) (fun hc8 => ?_) (fun hc8 => ?_)
        · exact absurd hc8 (by omega)
        · skip
          refine r_aload_n C dX3_readOrder_48 hl 0 rfl ?_
          refine r_callW (rest := []) (r := none) (wr := []) (ws2 := xW g o ad (xSkip Y)) (st1 := []) C hl.1 hW hA (c_X3_skipBlanks l g o ad Y  (by assumption) (show (x_place Y) ≤ (x_length Y) by omega)) v_X3_28 rfl [0, 1, 2] [] [0, 1, 2] rfl rfl (by decide) (by decide) rfl rfl 0 rfl rfl rfl (by decide) (by decide) (Nat.le_of_ble_eq_true rfl) dX3_readOrder_49 rfl rfl (fun H locs hW => ?_)
          have hS := xSkip_ok hYo (by omega)
          obtain ⟨hSo_length, hSo_orders, hSo_bytes, hSo_parts, hSo_place⟩ := id hS.1
          have hS1 := hS.2.1
          refine r_aload_n C dX3_readOrder_52 hl 0 rfl ?_
          refine r_iload_n C dX3_readOrder_53 hl 1 rfl ?_
          refine r_iload C dX3_readOrder_54 hl 3 rfl ?_
          refine r_iadd C dX3_readOrder_56 ?_
          refine r_callW (rest := []) (r := some (.int (iI (bI ((xNumber (sl + i) (xSkip Y)).1 = true))))) (wr := []) (ws2 := xW g o ad ((xNumber (sl + i) (xSkip Y)).2)) (st1 := [.int (iI (bI ((xNumber (sl + i) (xSkip Y)).1 = true)))]) C hl.1 hW hA (c_X3_readNumber l g o ad (xSkip Y) (sl + i) hS.1 (show 0 ≤ (sl + i) ∧ (sl + i) < 300 by omega) (show x_place (xSkip Y) ≤ x_length (xSkip Y) from hS.2.1)) v_X3_39 rfl [0, 1, 2] [] [0, 1, 2] rfl rfl (by decide) (by decide) rfl rfl 0 rfl rfl rfl (by decide) (by decide) (Nat.le_of_ble_eq_true rfl) dX3_readOrder_57 rfl rfl (fun H locs hW => ?_)
          refine r_ifb_ne C 65 dX3_readOrder_60 (by decide) (fun hc9 => ?_) (fun hc9 => ?_)
          · skip
            refine r_iinc (v := i + 1) C [(4, .int (iI (i + 1))), (0, .ref (o)), (1, .int (iI (sl))), (3, .int (iI (xBehind (x_bytes X (x_place X)))))] dX3_readOrder_65 hl 3 rfl (by decide) (by omega) rfl (fun ls hl => ?_)
            refine r_goto C 42 dX3_readOrder_68 (by decide) ?_
            have hM := xNumber_ok (slot := sl + i) hS.1 hS.2.1
            exact ih42 (i + 1) _ (by omega) (by omega) hM.1 hYl (show _ ≤ x_length Y from hM.2.1) (by rw [hq]; exact if_pos hc9) _ _ ls hW (lv_sub hl [1, 2, 3, 0] rfl)
          · skip
            refine r_iconst (z := 0) C dX3_readOrder_63 rfl ?_
            have hE : xOrder sl X = (false, (xNumber (sl + i) (xSkip Y)).2) := by
              have hN : xN sl X = (false, (xNumber (sl + i) (xSkip Y)).2) := by rw [hq]; exact if_neg hc9
              unfold xOrder; rw [if_neg hnb, hN]; exact if_neg Bool.false_ne_true
            exact MW_zret (d := (xOrder sl X).1 = true) C hAe hrt hlk hW dX3_readOrder_64 (by rw [hE]; exact (bI_f Bool.false_ne_true).symm) rfl (by rw [hE])
    exact hloop42 (xBehind (x_bytes X (x_place X))).toNat 1 _ (by omega) (by omega) (xLetter_ok hX (by omega)) rfl (show x_place X + 1 ≤ x_length X by omega) rfl _ _ ls hW (lv_sub hl [3, 4, 1, 0] rfl)
  · skip
    refine r_iconst (z := 0) C dX3_readOrder_20 rfl ?_
    have hE : xOrder sl X = (false, X) := if_pos (by omega)
    exact MW_zret (d := (xOrder sl X).1 = true) C hAe hrt hlk hW dX3_readOrder_21 (by rw [hE]; exact (bI_f Bool.false_ne_true).symm) rfl (by rw [hE])
set_option maxHeartbeats 4000000 in
set_option maxRecDepth 100000 in
theorem c_X3_read (l : Launch) (g : GG) (o : Nat) (ad : Nat → Nat) (X : Tx) (hX : xOk X) : MW l g yX3_read cX3_read 2 (some .int) 3 67 [.ref (o)] (xW g o ad X) (xW g o ad ((xRead X).2)) (some (.int (iI ((xRead X).1)))) := by
  refine MW_start (by decide) (Nat.le_of_ble_eq_true rfl) ?_
  intro zp ze zs zm zb zt zc A hAe C hrt hlk hW ls hl
  have hA : ∀ q, zs.heap.size ≤ q → A q := fun q h => by rw [hAe]; exact Or.inr h
  have hl : lv_has ls 2 [(0, .ref (o))] := hl
  obtain ⟨hX_length, hX_orders, hX_bytes, hX_parts, hX_place⟩ := id hX
  have hloop31 : ∀ (k31 : Nat) (fl : Int) (Y : Tx) (hkk : x_orders Y + k31 = 60) (hfl : fl = 0 ∨ fl = 1) (hYo : xOk Y) (hYl : x_length Y = x_length X) (hYp : x_place Y ≤ x_length Y) (hq : xRead X = xLoop (if fl = 1 then x_length X else -1) k31 Y) (H : Heap) (locs : List Loc) (ls : Array Slot), HW g A zs.heap (xW g o ad Y) H locs → lv_has ls 2 [(0, .ref (o)), (1, .int (iI (fl)))] → W zp l ze (rmm 3 67) zs zm (List.toArray [.ref (o)]) zb zt zc H locs 0 0 (MQ zb (QW g (xW g o ad X) (xW g o ad ((xRead X).2)) zs.heap.size (some (.int (iI ((xRead X).1))))) (List.toArray [.ref (o)]) zs 0 0 A) (F0 zm 31 ls []) := by
    intro k31
    induction k31 with
    | zero =>
      intro fl Y hkk hfl hYo hYl hYp hq H locs ls hW hl
      obtain ⟨hYo_length, hYo_orders, hYo_bytes, hYo_parts, hYo_place⟩ := id hYo
      refine r_aload_n C dX3_read_31 hl 0 rfl ?_
      refine r_get (v := .int (iI (x_orders Y))) C f_X3_15 hW.1 0 rfl rfl dX3_read_32 ?_
      refine r_bipush (z := 60) C dX3_read_35 rfl ?_
      refine r_icmp_ge C 86 dX3_read_37 (by decide) (by omega) (by omega) (fun hc1 => ?_) (fun hc1 => ?_)
      · skip
        refine r_iload_n C dX3_read_86 hl 1 rfl ?_
        refine r_if_eq C 97 dX3_read_87 (by decide) (by omega) (fun hc2 => ?_) (fun hc2 => ?_)
        · skip
          refine r_iconst (z := -1) C dX3_read_97 rfl ?_
          have hE : xRead X = (-1, Y) := by
            rw [hq]
            first | (show (_, _) = _; rw [if_neg (by omega)]; done) | exact (if_neg (by omega)).trans (by rw [if_neg (by omega)])
          exact MW_iret C hAe hrt hlk hW dX3_read_98 (iw (by rw [hE])) (by rw [hE])
        · skip
          refine r_aload_n C dX3_read_90 hl 0 rfl ?_
          refine r_get (v := .int (iI (x_length Y))) C f_X3_9 hW.1 0 rfl rfl dX3_read_91 ?_
          refine r_goto C 98 dX3_read_94 (by decide) ?_
          have hE : xRead X = (x_length Y, Y) := by
            rw [hq]
            first | (show (_, _) = _; rw [if_pos (by omega), hYl]; done) | exact (if_neg (by omega)).trans (by rw [if_pos (by omega), hYl])
          exact MW_iret C hAe hrt hlk hW dX3_read_98 (iw (by rw [hE])) (by rw [hE])
      · exact absurd hc1 (by omega)
    | succ k31 ih31 =>
      intro fl Y hkk hfl hYo hYl hYp hq H locs ls hW hl
      obtain ⟨hYo_length, hYo_orders, hYo_bytes, hYo_parts, hYo_place⟩ := id hYo
      refine r_aload_n C dX3_read_31 hl 0 rfl ?_
      refine r_get (v := .int (iI (x_orders Y))) C f_X3_15 hW.1 0 rfl rfl dX3_read_32 ?_
      refine r_bipush (z := 60) C dX3_read_35 rfl ?_
      refine r_icmp_ge C 86 dX3_read_37 (by decide) (by omega) (by omega) (fun hc3 => ?_) (fun hc3 => ?_)
      · exact absurd hc3 (by omega)
      · skip
        refine r_aload_n C dX3_read_40 hl 0 rfl ?_
        refine r_get (v := .int (iI (x_place Y))) C f_X3_25 hW.1 0 rfl rfl dX3_read_41 ?_
        refine r_aload_n C dX3_read_44 hl 0 rfl ?_
        refine r_get (v := .int (iI (x_length Y))) C f_X3_9 hW.1 0 rfl rfl dX3_read_45 ?_
        refine r_icmp_ge C 86 dX3_read_48 (by decide) (by omega) (by omega) (fun hc4 => ?_) (fun hc4 => ?_)
        · skip
          refine r_iload_n C dX3_read_86 hl 1 rfl ?_
          refine r_if_eq C 97 dX3_read_87 (by decide) (by omega) (fun hc5 => ?_) (fun hc5 => ?_)
          · skip
            refine r_iconst (z := -1) C dX3_read_97 rfl ?_
            have hE : xRead X = (-1, Y) := by
              rw [hq]
              first | (show (_, _) = _; rw [if_neg (by omega)]; done) | exact (if_neg (by omega)).trans (by rw [if_neg (by omega)])
            exact MW_iret C hAe hrt hlk hW dX3_read_98 (iw (by rw [hE])) (by rw [hE])
          · skip
            refine r_aload_n C dX3_read_90 hl 0 rfl ?_
            refine r_get (v := .int (iI (x_length Y))) C f_X3_9 hW.1 0 rfl rfl dX3_read_91 ?_
            refine r_goto C 98 dX3_read_94 (by decide) ?_
            have hE : xRead X = (x_length Y, Y) := by
              rw [hq]
              first | (show (_, _) = _; rw [if_pos (by omega), hYl]; done) | exact (if_neg (by omega)).trans (by rw [if_pos (by omega), hYl])
            exact MW_iret C hAe hrt hlk hW dX3_read_98 (iw (by rw [hE])) (by rw [hE])
        · skip
          refine r_aload_n C dX3_read_51 hl 0 rfl ?_
          refine r_aload_n C dX3_read_52 hl 0 rfl ?_
          refine r_get (v := .int (iI (x_orders Y))) C f_X3_15 hW.1 0 rfl rfl dX3_read_53 ?_
          refine r_iconst (z := 5) C dX3_read_56 rfl ?_
          refine r_imul C dX3_read_57 ?_
          refine r_callW (rest := []) (r := some (.int (iI (bI ((xOrder ((x_orders Y) * 5) Y).1 = true))))) (wr := []) (ws2 := xW g o ad ((xOrder ((x_orders Y) * 5) Y).2)) (st1 := [.int (iI (bI ((xOrder ((x_orders Y) * 5) Y).1 = true)))]) C hl.1 hW hA (c_X3_readOrder l g o ad Y ((x_orders Y) * 5) (by assumption) (show 0 ≤ ((x_orders Y) * 5) ∧ ((x_orders Y) * 5) ≤ 295 by omega) (show (x_place Y) < (x_length Y) by omega)) v_X3_31 rfl [0, 1, 2] [] [0, 1, 2] rfl rfl (by decide) (by decide) rfl rfl 0 rfl rfl rfl (by decide) (by decide) (Nat.le_of_ble_eq_true rfl) dX3_read_58 rfl rfl (fun H locs hW => ?_)
          have hT1 := xStep_ok hYo (by omega) (by omega)
          have hT2 := hT1.1.2.1
          have hT3 := hT1.1.2.2
          have hT4 := hT1.1.1.2.2.2.2
          have hT5 := hT1.2.2.2.2
          have hT6 := hT1.1.1.1
          refine r_ifb_ne C 69 dX3_read_61 (by decide) (fun hc6 => ?_) (fun hc6 => ?_)
          · skip
            refine r_aload_n C dX3_read_69 hl 0 rfl ?_
            refine r_callW (rest := []) (r := none) (wr := []) (ws2 := xW g o ad (xSkip ((xOrder ((x_orders Y) * 5) Y).2))) (st1 := []) C hl.1 hW hA (c_X3_skipBlanks l g o ad ((xOrder ((x_orders Y) * 5) Y).2)  hT1.1.1 hT1.1.2.1) v_X3_28 rfl [0, 1, 2] [] [0, 1, 2] rfl rfl (by decide) (by decide) rfl rfl 0 rfl rfl rfl (by decide) (by decide) (Nat.le_of_ble_eq_true rfl) dX3_read_70 rfl rfl (fun H locs hW => ?_)
            refine r_aload_n C dX3_read_73 hl 0 rfl ?_
            refine r_dup C rfl dX3_read_74 ?_
            refine r_get (v := .int (iI (x_orders (xSkip ((xOrder ((x_orders Y) * 5) Y).2))))) C f_X3_15 hW.1 0 rfl rfl dX3_read_75 ?_
            refine r_iconst (z := 1) C dX3_read_78 rfl ?_
            refine r_iadd C dX3_read_79 ?_
            refine r_put C f_X3_15 fp_3_1 hW (xW g o ad (xs_orders (xSkip ((xOrder ((x_orders Y) * 5) Y).2)) ((x_orders (xSkip ((xOrder ((x_orders Y) * 5) Y).2))) + 1))) 0 rfl rfl rfl (Nat.le_of_ble_eq_true rfl) rfl dX3_read_80 (fun H locs hW => ?_)
            refine r_goto C 31 dX3_read_83 (by decide) ?_
            exact ih31 fl (xNext (xOrder (x_orders Y * 5) Y).2) (by omega) (by omega) hT1.2.1 (hT1.2.2.2.1.trans hYl) hT1.2.2.1 (by rw [hq]; exact (if_pos (by omega)).trans (if_pos hc6)) _ _ ls hW (lv_sub hl [0, 1] rfl)
          · skip
            refine r_aload_n C dX3_read_64 hl 0 rfl ?_
            refine r_get (v := .int (iI (x_place ((xOrder ((x_orders Y) * 5) Y).2)))) C f_X3_25 hW.1 0 rfl rfl dX3_read_65 ?_
            have hE : xRead X = (x_place ((xOrder ((x_orders Y) * 5) Y).2), (xOrder ((x_orders Y) * 5) Y).2) := by rw [hq]; exact (if_pos (by omega)).trans (if_neg hc6)
            exact MW_iret C hAe hrt hlk hW dX3_read_68 (iw (by rw [hE])) (by rw [hE])
  refine r_aload_n C dX3_read_0 hl 0 rfl ?_
  refine r_iconst (z := 0) C dX3_read_1 rfl ?_
  refine r_put C f_X3_25 fp_3_4 hW (xW g o ad (xs_place X 0)) 0 rfl rfl rfl (Nat.le_of_ble_eq_true rfl) rfl dX3_read_2 (fun H locs hW => ?_)
  refine r_aload_n C dX3_read_5 hl 0 rfl ?_
  refine r_callW (rest := []) (r := none) (wr := []) (ws2 := xW g o ad (xSkip (xs_place X 0))) (st1 := []) C hl.1 hW hA (c_X3_skipBlanks l g o ad (xs_place X 0)  (show xOk (xs_place X 0) from ⟨hX.1, hX.2.1, hX.2.2.1, hX.2.2.2.1, show (0 : Int) ≤ 0 ∧ (0 : Int) ≤ 120 by decide⟩) (show 0 ≤ (x_length X) by omega)) v_X3_28 rfl [0, 1, 2] [] [0, 1, 2] rfl rfl (by decide) (by decide) rfl rfl 0 rfl rfl rfl (by decide) (by decide) (Nat.le_of_ble_eq_true rfl) dX3_read_6 rfl rfl (fun H locs hW => ?_)
  refine r_aload_n C dX3_read_9 hl 0 rfl ?_
  have hl0 : x_length (xSkip (xs_place X 0)) = x_length X := rfl
  have hp0 : x_place (xSkip (xs_place X 0)) ≤ x_length X := (xStart_ok hX).2.1
  have hp1 : 0 ≤ x_place (xSkip (xs_place X 0)) := (xStart_ok hX).1.2.2.2.2.1
  refine r_get (v := .int (iI (x_place (xSkip (xs_place X 0))))) C f_X3_25 hW.1 0 rfl rfl dX3_read_10 ?_
  refine r_aload_n C dX3_read_13 hl 0 rfl ?_
  refine r_get (v := .int (iI (x_length (xSkip (xs_place X 0))))) C f_X3_9 hW.1 0 rfl rfl dX3_read_14 ?_
  refine r_icmp_lt C 24 dX3_read_17 (by decide) (by omega) (by omega) (fun hc7 => ?_) (fun hc7 => ?_)
  · skip
    refine r_iconst (z := 0) C dX3_read_24 rfl ?_
    refine r_istore_n C [(1, .int (iI (0))), (0, .ref (o))] dX3_read_25 hl (by decide) rfl (fun ls hl => ?_)
    refine r_aload_n C dX3_read_26 hl 1 rfl ?_
    refine r_iconst (z := 0) C dX3_read_27 rfl ?_
    refine r_put C f_X3_15 fp_3_1 hW (xW g o ad (xs_orders (xSkip (xs_place X 0)) 0)) 0 rfl rfl rfl (Nat.le_of_ble_eq_true rfl) rfl dX3_read_28 (fun H locs hW => ?_)
    have hSt := xStart_ok hX
    exact hloop31 60 0 (xStart X) (show (0 : Int) + 60 = 60 by decide) (by omega) hSt.1 rfl hSt.2.1 (by unfold xRead; congr 1; exact (if_neg (show ¬ (x_length X ≤ x_place (xStart X)) by first | assumption | (show ¬ (x_length X ≤ x_place (xSkip (xs_place X 0))); omega))).trans (by rfl)) _ _ ls hW (lv_sub hl [1, 0] rfl)
  · skip
    refine r_iconst (z := 1) C dX3_read_20 rfl ?_
    refine r_goto C 25 dX3_read_21 (by decide) ?_
    refine r_istore_n C [(1, .int (iI (1))), (0, .ref (o))] dX3_read_25 hl (by decide) rfl (fun ls hl => ?_)
    refine r_aload_n C dX3_read_26 hl 1 rfl ?_
    refine r_iconst (z := 0) C dX3_read_27 rfl ?_
    refine r_put C f_X3_15 fp_3_1 hW (xW g o ad (xs_orders (xSkip (xs_place X 0)) 0)) 0 rfl rfl rfl (Nat.le_of_ble_eq_true rfl) rfl dX3_read_28 (fun H locs hW => ?_)
    have hSt := xStart_ok hX
    exact hloop31 60 1 (xStart X) (show (0 : Int) + 60 = 60 by decide) (by omega) hSt.1 rfl hSt.2.1 (by unfold xRead; congr 1; exact (if_pos (show (x_length X ≤ x_place (xStart X)) by first | assumption | (show (x_length X ≤ x_place (xSkip (xs_place X 0))); omega))).trans (by rfl)) _ _ ls hW (lv_sub hl [1, 0] rfl)

section LC
variable {g : GG} {p : Program} {l : Launch} {e : Env} {s : State} {m : MethodId} {below : List Frame} {meth : Method} {c : Code} {b L : Nat} {xs : Nat → Int32} {A : Nat → Prop} {o od : Nat} {ma ta sa xa ad : Nat → Nat} {H : Heap} {locs : List Loc} {ls : Array Slot}
set_option maxHeartbeats 4000000 in
set_option maxRecDepth 100000 in
theorem lc_entry (C : Cx g p m c code 4 s #[Value.ref b] RL) (E : lEnv A b L xs s) {k i : Int} (hk : 0 ≤ k ∧ k < 1000) (hi : 0 ≤ i ∧ i + 5 ≤ L) (hgo : lGo g p l e s m below meth c A b o od ma ta sa xa ad k i) (h : lStt g s A b o od ma ta sa xa ad k i H locs ls) : W p l e room_1 s m #[Value.ref b] below meth c H locs 98 71790 (lw_Z below #[Value.ref b] s) (F0 m 595 ls []) := by
  obtain ⟨q, a, M, T, U, X, P, D, hW, hS, hR, hl⟩ := h
  have hA : ∀ q, s.heap.size ≤ q → A q := E.2.2.2.1
  have hL := E.2.2.2.2
  have hMo : fOk M := gS_f hS (by omega)
  have hTo := hS.2.2.1.1
  have hUo := hS.2.2.1.2.1
  have hXo := hS.2.2.1.2.2.1
  have hPo := hS.2.2.1.2.2.2.1
  have hDo := hS.2.2.1.2.2.2.2.1
  have hNo := hS.2.2.1.2.2.2.2.2.1
  have hWo := hS.2.2.1.2.2.2.2.2.2
  have hr0 := rR_0 hR hS.1.1
  have hr1 := rR_1 hR
  have hz1 := zx_r xs (i + 1)
  have hz2 := zx_r xs (i + 2)
  have hs := s_entry (i := zx xs (i + 1)) (w := zx xs (i + 2)) hS (by omega)
  generalize hzz1 : zx xs (i + 1) = z1 at hz1 hs
  generalize hzz2 : zx xs (i + 2) = z2 at hz2 hs
  refine r_aload_n C dL_law_595 hl 1 rfl ?_
  refine r_aload_n C dL_law_596 hl 0 rfl ?_
  refine r_iload_n C dL_law_597 hl 3 rfl ?_
  refine r_iconst (z := 1) C dL_law_598 rfl ?_
  refine r_iadd C dL_law_599 ?_
  refine l_sld C E hW (by omega) dL_law_600 ?_
  rw [hzz1]
  refine r_aload_n C dL_law_601 hl 0 rfl ?_
  refine r_iload_n C dL_law_602 hl 3 rfl ?_
  refine r_iconst (z := 2) C dL_law_603 rfl ?_
  refine r_iadd C dL_law_604 ?_
  refine l_sld C E hW (by omega) dL_law_605 ?_
  rw [hzz2]
  refine r_callW (rest := []) (r := some (.int (iI ((fEntryA (P 0) z1 z2 M T).1)))) (wr := pW g (q 1) (a 1) (P 1) ++ (pW g (q 2) (a 2) (P 2) ++ (pW g (q 3) (a 3) (P 3) ++ (pW g (q 4) (a 4) (P 4) ++ (pW g (q 5) (a 5) (P 5) ++ (pW g (q 6) (a 6) (P 6) ++ mF g od ad (m_refused D) (m_now D) (m_kept D) (m_states D) (m_place D) (m_startFact D) (m_node D) (m_fact D) (m_ahead D) (m_inside D) (m_entries D) (m_caller D) (m_following D) (m_firstCaller D) (m_lastCaller D) (m_callers D) (m_known D) (m_loose D) (m_stack D) (m_high D) (m_pairs D) (m_told D) (m_text D) (m_typed D) (m_orders D) (m_written D) (m_look D))))))) (ws2 := lWd g o od ma ta sa xa ad q a ((fEntryA (P 0) z1 z2 M T).2.1) ((fEntryA (P 0) z1 z2 M T).2.2) (U) (X) P D) (st1 := [.int (iI ((fEntryA (P 0) z1 z2 M T).1))]) C hl.1 hW hA (c_X4_entry l g o ma M ta T sa U xa X (q 0) (a 0) (P 0) z1 z2 hMo hTo hUo hXo (hPo 0 (by omega)) hr0 hz1 hz2) v_L_78 rfl [0, 1, 2, 3, 4, 5, 6, 7, 8, 9, 10, 11, 12, 13, 14, 15, 16, 17, 18, 19, 20, 21, 22, 23, 24] [25, 26, 27, 28, 29, 30, 31, 32, 33, 34, 35, 36, 37, 38, 39, 40, 41, 42, 43, 44, 45, 46, 47, 48, 49, 50, 51, 52, 53, 54, 55, 56, 57, 58, 59, 60, 61, 62, 63, 64, 65, 66, 67, 68, 69, 70, 71, 72, 73, 74, 75, 76, 77, 78, 79, 80, 81, 82, 83, 84, 85, 86, 87, 88, 89, 90, 91, 92, 93, 94, 95, 96, 97] [73, 74, 75, 76, 77, 78, 79, 80, 81, 82, 83, 84, 85, 86, 87, 88, 89, 90, 91, 92, 93, 94, 95, 96, 97, 0, 1, 2, 3, 4, 5, 6, 7, 8, 9, 10, 11, 12, 13, 14, 15, 16, 17, 18, 19, 20, 21, 22, 23, 24, 25, 26, 27, 28, 29, 30, 31, 32, 33, 34, 35, 36, 37, 38, 39, 40, 41, 42, 43, 44, 45, 46, 47, 48, 49, 50, 51, 52, 53, 54, 55, 56, 57, 58, 59, 60, 61, 62, 63, 64, 65, 66, 67, 68, 69, 70, 71, 72] rfl rfl (by decide) (by decide) rfl rfl 0 rfl rfl rfl (by decide) ⟨Nat.le_of_ble_eq_true rfl, Nat.le_of_ble_eq_true rfl⟩ (Nat.le_of_ble_eq_true rfl) dL_law_606 rfl rfl (fun H locs hW => ?_)
  refine opq ((mEntry z1 z2 D).2) (fun K hK => ?_)
  refine r_aload_n C dL_law_609 hl 2 rfl ?_
  refine r_aload_n C dL_law_610 hl 0 rfl ?_
  refine r_iload_n C dL_law_611 hl 3 rfl ?_
  refine r_iconst (z := 1) C dL_law_612 rfl ?_
  refine r_iadd C dL_law_613 ?_
  refine l_sld C E hW (by omega) dL_law_614 ?_
  rw [hzz1]
  refine r_aload_n C dL_law_615 hl 0 rfl ?_
  refine r_iload_n C dL_law_616 hl 3 rfl ?_
  refine r_iconst (z := 2) C dL_law_617 rfl ?_
  refine r_iadd C dL_law_618 ?_
  refine l_sld C E hW (by omega) dL_law_619 ?_
  rw [hzz2]
  refine r_callW (rest := [.int (iI ((fEntryA (P 0) z1 z2 M T).1))]) (r := some (.int (iI ((mEntry z1 z2 D).1)))) (wr := cW g o ma ta sa xa q a ((fEntryA (P 0) z1 z2 M T).2.1) ((fEntryA (P 0) z1 z2 M T).2.2) (U) (X) P) (ws2 := lWd g o od ma ta sa xa ad q a ((fEntryA (P 0) z1 z2 M T).2.1) ((fEntryA (P 0) z1 z2 M T).2.2) (U) (X) P K) (st1 := [.int (iI ((mEntry z1 z2 D).1)), .int (iI ((fEntryA (P 0) z1 z2 M T).1))]) C hl.1 hW hA (c_X5_entryL l g od ad D z1 z2 K hDo hNo hWo hz1 hz2 hK) v_L_81 rfl [79, 80, 81, 82, 83, 84, 85, 86, 87, 88, 89, 90, 91, 92, 93, 94, 95, 96, 97] [0, 1, 2, 3, 4, 5, 6, 7, 8, 9, 10, 11, 12, 13, 14, 15, 16, 17, 18, 19, 20, 21, 22, 23, 24, 25, 26, 27, 28, 29, 30, 31, 32, 33, 34, 35, 36, 37, 38, 39, 40, 41, 42, 43, 44, 45, 46, 47, 48, 49, 50, 51, 52, 53, 54, 55, 56, 57, 58, 59, 60, 61, 62, 63, 64, 65, 66, 67, 68, 69, 70, 71, 72, 73, 74, 75, 76, 77, 78] [0, 1, 2, 3, 4, 5, 6, 7, 8, 9, 10, 11, 12, 13, 14, 15, 16, 17, 18, 19, 20, 21, 22, 23, 24, 25, 26, 27, 28, 29, 30, 31, 32, 33, 34, 35, 36, 37, 38, 39, 40, 41, 42, 43, 44, 45, 46, 47, 48, 49, 50, 51, 52, 53, 54, 55, 56, 57, 58, 59, 60, 61, 62, 63, 64, 65, 66, 67, 68, 69, 70, 71, 72, 73, 74, 75, 76, 77, 78, 79, 80, 81, 82, 83, 84, 85, 86, 87, 88, 89, 90, 91, 92, 93, 94, 95, 96, 97] rfl rfl (by decide) (by decide) rfl rfl 0 rfl rfl rfl (by decide) ⟨Nat.le_of_ble_eq_true rfl, Nat.le_of_ble_eq_true rfl⟩ (Nat.le_of_ble_eq_true rfl) dL_law_620 rfl rfl (fun H locs hW => ?_)
  rw [hs.1]
  refine lv_icmp_eq (tgt := 770) C.1.1 C.1.2.1 dL_law_623 (by decide) (fun _ => ?_) (fun hne => absurd rfl hne)
  have hg := hs.2
  have hK9 : (mEntry z1 z2 D).2 = K := hK
  rw [hK9] at hg
  have hrn : f_rows ((fEntryA (P 0) z1 z2 M T).2.1) = f_rows M ∧ f_now ((fEntryA (P 0) z1 z2 M T).2.1) = f_now M := by unfold fEntryA; (repeat' split) <;> first | exact ⟨rfl, rfl⟩ | exact fRef_rn _ _
  exact hgo _ _ _ ⟨q, a, _, _, _, _, P, _, hW, hg, rR_same hR hrn, hl⟩
set_option maxHeartbeats 4000000 in
set_option maxRecDepth 100000 in
theorem lc_witness (C : Cx g p m c code 4 s #[Value.ref b] RL) (E : lEnv A b L xs s) {k i : Int} (hk : 0 ≤ k ∧ k < 1000) (hi : 0 ≤ i ∧ i + 5 ≤ L) (hgo : lGo g p l e s m below meth c A b o od ma ta sa xa ad k i) (h : lStt g s A b o od ma ta sa xa ad k i H locs ls) : W p l e room_1 s m #[Value.ref b] below meth c H locs 98 71790 (lw_Z below #[Value.ref b] s) (F0 m 628 ls []) := by
  obtain ⟨q, a, M, T, U, X, P, D, hW, hS, hR, hl⟩ := h
  have hA : ∀ q, s.heap.size ≤ q → A q := E.2.2.2.1
  have hL := E.2.2.2.2
  have hMo : fOk M := gS_f hS (by omega)
  have hTo := hS.2.2.1.1
  have hUo := hS.2.2.1.2.1
  have hXo := hS.2.2.1.2.2.1
  have hPo := hS.2.2.1.2.2.2.1
  have hDo := hS.2.2.1.2.2.2.2.1
  have hNo := hS.2.2.1.2.2.2.2.2.1
  have hWo := hS.2.2.1.2.2.2.2.2.2
  have hr0 := rR_0 hR hS.1.1
  have hr1 := rR_1 hR
  have hz1 := zx_r xs (i + 1)
  have hz2 := zx_r xs (i + 2)
  have hz3 := zx_r xs (i + 3)
  have hs := s_witness (n := zx xs (i + 1)) (f := zx xs (i + 2)) (i := zx xs (i + 3)) hS (by omega)
  have hq9 := (gS_q hS).2.2.1.1
  have hA0 : ∀ i9 : Int, 0 ≤ i9 → i9 < m_entries (mKn D) → (-1 ≤ m_ahead (mKn D) i9 ∧ m_ahead (mKn D) i9 < i9) ∧ (-1 ≤ m_inside (mKn D) i9 ∧ m_inside (mKn D) i9 < i9) := fR_ord hq9
  have hP9 : ∀ k9 : Int, 0 ≤ k9 → k9 < 1536 → m_place (mKn D) k9 ≤ m_entries (mKn D) := fun k9 h1 h2 => by
    have h8 := hq9.2.1.2.2.2.2.2.2.2.2.1
    rcases hq9.2.2.2.1.2 k9 h1 h2 with h9 | h9
    · omega
    · exact h9.1.2
  generalize hzz1 : zx xs (i + 1) = z1 at hz1 hs
  generalize hzz2 : zx xs (i + 2) = z2 at hz2 hs
  generalize hzz3 : zx xs (i + 3) = z3 at hz3 hs
  refine r_aload_n C dL_law_628 hl 1 rfl ?_
  refine r_aload_n C dL_law_629 hl 0 rfl ?_
  refine r_iload_n C dL_law_630 hl 3 rfl ?_
  refine r_iconst (z := 1) C dL_law_631 rfl ?_
  refine r_iadd C dL_law_632 ?_
  refine l_sld C E hW (by omega) dL_law_633 ?_
  rw [hzz1]
  refine r_aload_n C dL_law_634 hl 0 rfl ?_
  refine r_iload_n C dL_law_635 hl 3 rfl ?_
  refine r_iconst (z := 2) C dL_law_636 rfl ?_
  refine r_iadd C dL_law_637 ?_
  refine l_sld C E hW (by omega) dL_law_638 ?_
  rw [hzz2]
  refine r_aload_n C dL_law_639 hl 0 rfl ?_
  refine r_iload_n C dL_law_640 hl 3 rfl ?_
  refine r_iconst (z := 3) C dL_law_641 rfl ?_
  refine r_iadd C dL_law_642 ?_
  refine l_sld C E hW (by omega) dL_law_643 ?_
  rw [hzz3]
  refine r_callW (rest := []) (r := some (.int (iI ((fWitness (P 0) z1 z2 z3 M T).1)))) (wr := pW g (q 1) (a 1) (P 1) ++ (pW g (q 2) (a 2) (P 2) ++ (pW g (q 3) (a 3) (P 3) ++ (pW g (q 4) (a 4) (P 4) ++ (pW g (q 5) (a 5) (P 5) ++ (pW g (q 6) (a 6) (P 6) ++ mF g od ad (m_refused D) (m_now D) (m_kept D) (m_states D) (m_place D) (m_startFact D) (m_node D) (m_fact D) (m_ahead D) (m_inside D) (m_entries D) (m_caller D) (m_following D) (m_firstCaller D) (m_lastCaller D) (m_callers D) (m_known D) (m_loose D) (m_stack D) (m_high D) (m_pairs D) (m_told D) (m_text D) (m_typed D) (m_orders D) (m_written D) (m_look D))))))) (ws2 := lWd g o od ma ta sa xa ad q a ((fWitness (P 0) z1 z2 z3 M T).2.1) ((fWitness (P 0) z1 z2 z3 M T).2.2) (U) (X) P D) (st1 := [.int (iI ((fWitness (P 0) z1 z2 z3 M T).1))]) C hl.1 hW hA (c_X4_witness l g o ma M ta T sa U xa X (q 0) (a 0) (P 0) z1 z2 z3 hMo hTo hUo hXo (hPo 0 (by omega)) hr0 hz1 hz2 hz3) v_L_82 rfl [0, 1, 2, 3, 4, 5, 6, 7, 8, 9, 10, 11, 12, 13, 14, 15, 16, 17, 18, 19, 20, 21, 22, 23, 24] [25, 26, 27, 28, 29, 30, 31, 32, 33, 34, 35, 36, 37, 38, 39, 40, 41, 42, 43, 44, 45, 46, 47, 48, 49, 50, 51, 52, 53, 54, 55, 56, 57, 58, 59, 60, 61, 62, 63, 64, 65, 66, 67, 68, 69, 70, 71, 72, 73, 74, 75, 76, 77, 78, 79, 80, 81, 82, 83, 84, 85, 86, 87, 88, 89, 90, 91, 92, 93, 94, 95, 96, 97] [73, 74, 75, 76, 77, 78, 79, 80, 81, 82, 83, 84, 85, 86, 87, 88, 89, 90, 91, 92, 93, 94, 95, 96, 97, 0, 1, 2, 3, 4, 5, 6, 7, 8, 9, 10, 11, 12, 13, 14, 15, 16, 17, 18, 19, 20, 21, 22, 23, 24, 25, 26, 27, 28, 29, 30, 31, 32, 33, 34, 35, 36, 37, 38, 39, 40, 41, 42, 43, 44, 45, 46, 47, 48, 49, 50, 51, 52, 53, 54, 55, 56, 57, 58, 59, 60, 61, 62, 63, 64, 65, 66, 67, 68, 69, 70, 71, 72] rfl rfl (by decide) (by decide) rfl rfl 0 rfl rfl rfl (by decide) ⟨Nat.le_of_ble_eq_true rfl, Nat.le_of_ble_eq_true rfl⟩ (Nat.le_of_ble_eq_true rfl) dL_law_644 rfl rfl (fun H locs hW => ?_)
  refine opq ((mWitness z1 z2 z3 D).2) (fun K hK => ?_)
  refine r_aload_n C dL_law_647 hl 2 rfl ?_
  refine r_aload_n C dL_law_648 hl 0 rfl ?_
  refine r_iload_n C dL_law_649 hl 3 rfl ?_
  refine r_iconst (z := 1) C dL_law_650 rfl ?_
  refine r_iadd C dL_law_651 ?_
  refine l_sld C E hW (by omega) dL_law_652 ?_
  rw [hzz1]
  refine r_aload_n C dL_law_653 hl 0 rfl ?_
  refine r_iload_n C dL_law_654 hl 3 rfl ?_
  refine r_iconst (z := 2) C dL_law_655 rfl ?_
  refine r_iadd C dL_law_656 ?_
  refine l_sld C E hW (by omega) dL_law_657 ?_
  rw [hzz2]
  refine r_aload_n C dL_law_658 hl 0 rfl ?_
  refine r_iload_n C dL_law_659 hl 3 rfl ?_
  refine r_iconst (z := 3) C dL_law_660 rfl ?_
  refine r_iadd C dL_law_661 ?_
  refine l_sld C E hW (by omega) dL_law_662 ?_
  rw [hzz3]
  refine r_callW (rest := [.int (iI ((fWitness (P 0) z1 z2 z3 M T).1))]) (r := some (.int (iI ((mWitness z1 z2 z3 D).1)))) (wr := cW g o ma ta sa xa q a ((fWitness (P 0) z1 z2 z3 M T).2.1) ((fWitness (P 0) z1 z2 z3 M T).2.2) (U) (X) P) (ws2 := lWd g o od ma ta sa xa ad q a ((fWitness (P 0) z1 z2 z3 M T).2.1) ((fWitness (P 0) z1 z2 z3 M T).2.2) (U) (X) P K) (st1 := [.int (iI ((mWitness z1 z2 z3 D).1)), .int (iI ((fWitness (P 0) z1 z2 z3 M T).1))]) C hl.1 hW hA (c_X5_witnessL l g od ad D z1 z2 z3 K hDo hNo hWo hA0 hP9 hz1 hz2 hz3 hK) v_L_85 rfl [79, 80, 81, 82, 83, 84, 85, 86, 87, 88, 89, 90, 91, 92, 93, 94, 95, 96, 97] [0, 1, 2, 3, 4, 5, 6, 7, 8, 9, 10, 11, 12, 13, 14, 15, 16, 17, 18, 19, 20, 21, 22, 23, 24, 25, 26, 27, 28, 29, 30, 31, 32, 33, 34, 35, 36, 37, 38, 39, 40, 41, 42, 43, 44, 45, 46, 47, 48, 49, 50, 51, 52, 53, 54, 55, 56, 57, 58, 59, 60, 61, 62, 63, 64, 65, 66, 67, 68, 69, 70, 71, 72, 73, 74, 75, 76, 77, 78] [0, 1, 2, 3, 4, 5, 6, 7, 8, 9, 10, 11, 12, 13, 14, 15, 16, 17, 18, 19, 20, 21, 22, 23, 24, 25, 26, 27, 28, 29, 30, 31, 32, 33, 34, 35, 36, 37, 38, 39, 40, 41, 42, 43, 44, 45, 46, 47, 48, 49, 50, 51, 52, 53, 54, 55, 56, 57, 58, 59, 60, 61, 62, 63, 64, 65, 66, 67, 68, 69, 70, 71, 72, 73, 74, 75, 76, 77, 78, 79, 80, 81, 82, 83, 84, 85, 86, 87, 88, 89, 90, 91, 92, 93, 94, 95, 96, 97] rfl rfl (by decide) (by decide) rfl rfl 0 rfl rfl rfl (by decide) ⟨Nat.le_of_ble_eq_true rfl, Nat.le_of_ble_eq_true rfl⟩ (Nat.le_of_ble_eq_true rfl) dL_law_663 rfl rfl (fun H locs hW => ?_)
  rw [hs.1]
  refine lv_icmp_eq (tgt := 770) C.1.1 C.1.2.1 dL_law_666 (by decide) (fun _ => ?_) (fun hne => absurd rfl hne)
  have hg := hs.2
  have hK9 : (mWitness z1 z2 z3 D).2 = K := hK
  rw [hK9] at hg
  have hrn : f_rows ((fWitness (P 0) z1 z2 z3 M T).2.1) = f_rows M ∧ f_now ((fWitness (P 0) z1 z2 z3 M T).2.1) = f_now M := by unfold fWitness; (repeat' split) <;> first | exact ⟨rfl, rfl⟩ | exact fRef_rn _ _
  exact hgo _ _ _ ⟨q, a, _, _, _, _, P, _, hW, hg, rR_same hR hrn, hl⟩
set_option maxHeartbeats 4000000 in
set_option maxRecDepth 100000 in
theorem lc_type (C : Cx g p m c code 4 s #[Value.ref b] RL) (E : lEnv A b L xs s) {k i : Int} (hk : 0 ≤ k ∧ k < 1000) (hi : 0 ≤ i ∧ i + 5 ≤ L) (hgo : lGo g p l e s m below meth c A b o od ma ta sa xa ad k i) (h : lStt g s A b o od ma ta sa xa ad k i H locs ls) : W p l e room_1 s m #[Value.ref b] below meth c H locs 98 71790 (lw_Z below #[Value.ref b] s) (F0 m 671 ls []) := by
  obtain ⟨q, a, M, T, U, X, P, D, hW, hS, hR, hl⟩ := h
  have hA : ∀ q, s.heap.size ≤ q → A q := E.2.2.2.1
  have hL := E.2.2.2.2
  have hMo : fOk M := gS_f hS (by omega)
  have hTo := hS.2.2.1.1
  have hUo := hS.2.2.1.2.1
  have hXo := hS.2.2.1.2.2.1
  have hPo := hS.2.2.1.2.2.2.1
  have hDo := hS.2.2.1.2.2.2.2.1
  have hNo := hS.2.2.1.2.2.2.2.2.1
  have hWo := hS.2.2.1.2.2.2.2.2.2
  have hr0 := rR_0 hR hS.1.1
  have hr1 := rR_1 hR
  have hz1 := zx_r xs (i + 1)
  have hs := s_type (c := zx xs (i + 1)) hS (by omega)
  generalize hzz1 : zx xs (i + 1) = z1 at hz1 hs
  refine r_aload_n C dL_law_671 hl 1 rfl ?_
  refine r_aload_n C dL_law_672 hl 0 rfl ?_
  refine r_iload_n C dL_law_673 hl 3 rfl ?_
  refine r_iconst (z := 1) C dL_law_674 rfl ?_
  refine r_iadd C dL_law_675 ?_
  refine l_sld C E hW (by omega) dL_law_676 ?_
  rw [hzz1]
  refine r_callW (rest := []) (r := some (.int (iI ((fType z1 M X).1)))) (wr := pW g (q 1) (a 1) (P 1) ++ (pW g (q 2) (a 2) (P 2) ++ (pW g (q 3) (a 3) (P 3) ++ (pW g (q 4) (a 4) (P 4) ++ (pW g (q 5) (a 5) (P 5) ++ (pW g (q 6) (a 6) (P 6) ++ mF g od ad (m_refused D) (m_now D) (m_kept D) (m_states D) (m_place D) (m_startFact D) (m_node D) (m_fact D) (m_ahead D) (m_inside D) (m_entries D) (m_caller D) (m_following D) (m_firstCaller D) (m_lastCaller D) (m_callers D) (m_known D) (m_loose D) (m_stack D) (m_high D) (m_pairs D) (m_told D) (m_text D) (m_typed D) (m_orders D) (m_written D) (m_look D))))))) (ws2 := lWd g o od ma ta sa xa ad q a ((fType z1 M X).2.1) (T) (U) ((fType z1 M X).2.2) P D) (st1 := [.int (iI ((fType z1 M X).1))]) C hl.1 hW hA (c_X4_type l g o ma M ta T sa U xa X (q 0) (a 0) (P 0) z1 hMo hTo hUo hXo (hPo 0 (by omega)) hr0 hz1) v_L_86 rfl [0, 1, 2, 3, 4, 5, 6, 7, 8, 9, 10, 11, 12, 13, 14, 15, 16, 17, 18, 19, 20, 21, 22, 23, 24] [25, 26, 27, 28, 29, 30, 31, 32, 33, 34, 35, 36, 37, 38, 39, 40, 41, 42, 43, 44, 45, 46, 47, 48, 49, 50, 51, 52, 53, 54, 55, 56, 57, 58, 59, 60, 61, 62, 63, 64, 65, 66, 67, 68, 69, 70, 71, 72, 73, 74, 75, 76, 77, 78, 79, 80, 81, 82, 83, 84, 85, 86, 87, 88, 89, 90, 91, 92, 93, 94, 95, 96, 97] [73, 74, 75, 76, 77, 78, 79, 80, 81, 82, 83, 84, 85, 86, 87, 88, 89, 90, 91, 92, 93, 94, 95, 96, 97, 0, 1, 2, 3, 4, 5, 6, 7, 8, 9, 10, 11, 12, 13, 14, 15, 16, 17, 18, 19, 20, 21, 22, 23, 24, 25, 26, 27, 28, 29, 30, 31, 32, 33, 34, 35, 36, 37, 38, 39, 40, 41, 42, 43, 44, 45, 46, 47, 48, 49, 50, 51, 52, 53, 54, 55, 56, 57, 58, 59, 60, 61, 62, 63, 64, 65, 66, 67, 68, 69, 70, 71, 72] rfl rfl (by decide) (by decide) rfl rfl 0 rfl rfl rfl (by decide) ⟨Nat.le_of_ble_eq_true rfl, Nat.le_of_ble_eq_true rfl⟩ (Nat.le_of_ble_eq_true rfl) dL_law_677 rfl rfl (fun H locs hW => ?_)
  refine opq ((mType z1 D).2) (fun K hK => ?_)
  refine r_aload_n C dL_law_680 hl 2 rfl ?_
  refine r_aload_n C dL_law_681 hl 0 rfl ?_
  refine r_iload_n C dL_law_682 hl 3 rfl ?_
  refine r_iconst (z := 1) C dL_law_683 rfl ?_
  refine r_iadd C dL_law_684 ?_
  refine l_sld C E hW (by omega) dL_law_685 ?_
  rw [hzz1]
  refine r_callW (rest := [.int (iI ((fType z1 M X).1))]) (r := some (.int (iI ((mType z1 D).1)))) (wr := cW g o ma ta sa xa q a ((fType z1 M X).2.1) (T) (U) ((fType z1 M X).2.2) P) (ws2 := lWd g o od ma ta sa xa ad q a ((fType z1 M X).2.1) (T) (U) ((fType z1 M X).2.2) P K) (st1 := [.int (iI ((mType z1 D).1)), .int (iI ((fType z1 M X).1))]) C hl.1 hW hA (c_X5_typeL l g od ad D z1 K hDo hz1 hK) v_L_89 rfl [79, 80, 81, 82, 83, 84, 85, 86, 87, 88, 89, 90, 91, 92, 93, 94, 95, 96, 97] [0, 1, 2, 3, 4, 5, 6, 7, 8, 9, 10, 11, 12, 13, 14, 15, 16, 17, 18, 19, 20, 21, 22, 23, 24, 25, 26, 27, 28, 29, 30, 31, 32, 33, 34, 35, 36, 37, 38, 39, 40, 41, 42, 43, 44, 45, 46, 47, 48, 49, 50, 51, 52, 53, 54, 55, 56, 57, 58, 59, 60, 61, 62, 63, 64, 65, 66, 67, 68, 69, 70, 71, 72, 73, 74, 75, 76, 77, 78] [0, 1, 2, 3, 4, 5, 6, 7, 8, 9, 10, 11, 12, 13, 14, 15, 16, 17, 18, 19, 20, 21, 22, 23, 24, 25, 26, 27, 28, 29, 30, 31, 32, 33, 34, 35, 36, 37, 38, 39, 40, 41, 42, 43, 44, 45, 46, 47, 48, 49, 50, 51, 52, 53, 54, 55, 56, 57, 58, 59, 60, 61, 62, 63, 64, 65, 66, 67, 68, 69, 70, 71, 72, 73, 74, 75, 76, 77, 78, 79, 80, 81, 82, 83, 84, 85, 86, 87, 88, 89, 90, 91, 92, 93, 94, 95, 96, 97] rfl rfl (by decide) (by decide) rfl rfl 0 rfl rfl rfl (by decide) ⟨Nat.le_of_ble_eq_true rfl, Nat.le_of_ble_eq_true rfl⟩ (Nat.le_of_ble_eq_true rfl) dL_law_686 rfl rfl (fun H locs hW => ?_)
  rw [hs.1]
  refine lv_icmp_eq (tgt := 770) C.1.1 C.1.2.1 dL_law_689 (by decide) (fun _ => ?_) (fun hne => absurd rfl hne)
  have hg := hs.2
  have hK9 : (mType z1 D).2 = K := hK
  rw [hK9] at hg
  have hrn : f_rows ((fType z1 M X).2.1) = f_rows M ∧ f_now ((fType z1 M X).2.1) = f_now M := by unfold fType; (repeat' split) <;> first | exact ⟨rfl, rfl⟩ | exact fRef_rn _ _
  exact hgo _ _ _ ⟨q, a, _, _, _, _, P, _, hW, hg, rR_same hR hrn, hl⟩
set_option maxHeartbeats 4000000 in
set_option maxRecDepth 100000 in
theorem lc_clear (C : Cx g p m c code 4 s #[Value.ref b] RL) (E : lEnv A b L xs s) {k i : Int} (hk : 0 ≤ k ∧ k < 1000) (hi : 0 ≤ i ∧ i + 5 ≤ L) (hgo : lGo g p l e s m below meth c A b o od ma ta sa xa ad k i) (h : lStt g s A b o od ma ta sa xa ad k i H locs ls) : W p l e room_1 s m #[Value.ref b] below meth c H locs 98 71790 (lw_Z below #[Value.ref b] s) (F0 m 694 ls []) := by
  obtain ⟨q, a, M, T, U, X, P, D, hW, hS, hR, hl⟩ := h
  have hA : ∀ q, s.heap.size ≤ q → A q := E.2.2.2.1
  have hL := E.2.2.2.2
  have hMo : fOk M := gS_f hS (by omega)
  have hTo := hS.2.2.1.1
  have hUo := hS.2.2.1.2.1
  have hXo := hS.2.2.1.2.2.1
  have hPo := hS.2.2.1.2.2.2.1
  have hDo := hS.2.2.1.2.2.2.2.1
  have hNo := hS.2.2.1.2.2.2.2.2.1
  have hWo := hS.2.2.1.2.2.2.2.2.2
  have hr0 := rR_0 hR hS.1.1
  have hr1 := rR_1 hR
  have hs := s_clear  hS
  refine r_aload_n C dL_law_694 hl 1 rfl ?_
  refine r_callW (rest := []) (r := some (.int (iI (x_length X)))) (wr := pW g (q 1) (a 1) (P 1) ++ (pW g (q 2) (a 2) (P 2) ++ (pW g (q 3) (a 3) (P 3) ++ (pW g (q 4) (a 4) (P 4) ++ (pW g (q 5) (a 5) (P 5) ++ (pW g (q 6) (a 6) (P 6) ++ mF g od ad (m_refused D) (m_now D) (m_kept D) (m_states D) (m_place D) (m_startFact D) (m_node D) (m_fact D) (m_ahead D) (m_inside D) (m_entries D) (m_caller D) (m_following D) (m_firstCaller D) (m_lastCaller D) (m_callers D) (m_known D) (m_loose D) (m_stack D) (m_high D) (m_pairs D) (m_told D) (m_text D) (m_typed D) (m_orders D) (m_written D) (m_look D))))))) (ws2 := lWd g o od ma ta sa xa ad q a (M) (T) (U) (xs_length X 0) P D) (st1 := [.int (iI (x_length X))]) C hl.1 hW hA (c_X4_clear l g o ma M ta T sa U xa X (q 0) (a 0) (P 0)  hMo hTo hUo hXo (hPo 0 (by omega)) hr0) v_L_90 rfl [0, 1, 2, 3, 4, 5, 6, 7, 8, 9, 10, 11, 12, 13, 14, 15, 16, 17, 18, 19, 20, 21, 22, 23, 24] [25, 26, 27, 28, 29, 30, 31, 32, 33, 34, 35, 36, 37, 38, 39, 40, 41, 42, 43, 44, 45, 46, 47, 48, 49, 50, 51, 52, 53, 54, 55, 56, 57, 58, 59, 60, 61, 62, 63, 64, 65, 66, 67, 68, 69, 70, 71, 72, 73, 74, 75, 76, 77, 78, 79, 80, 81, 82, 83, 84, 85, 86, 87, 88, 89, 90, 91, 92, 93, 94, 95, 96, 97] [73, 74, 75, 76, 77, 78, 79, 80, 81, 82, 83, 84, 85, 86, 87, 88, 89, 90, 91, 92, 93, 94, 95, 96, 97, 0, 1, 2, 3, 4, 5, 6, 7, 8, 9, 10, 11, 12, 13, 14, 15, 16, 17, 18, 19, 20, 21, 22, 23, 24, 25, 26, 27, 28, 29, 30, 31, 32, 33, 34, 35, 36, 37, 38, 39, 40, 41, 42, 43, 44, 45, 46, 47, 48, 49, 50, 51, 52, 53, 54, 55, 56, 57, 58, 59, 60, 61, 62, 63, 64, 65, 66, 67, 68, 69, 70, 71, 72] rfl rfl (by decide) (by decide) rfl rfl 0 rfl rfl rfl (by decide) ⟨Nat.le_of_ble_eq_true rfl, Nat.le_of_ble_eq_true rfl⟩ (Nat.le_of_ble_eq_true rfl) dL_law_695 rfl rfl (fun H locs hW => ?_)
  refine opq (ms_typed D 0) (fun K hK => ?_)
  refine r_aload_n C dL_law_698 hl 2 rfl ?_
  refine r_callW (rest := [.int (iI (x_length X))]) (r := some (.int (iI (m_typed D)))) (wr := cW g o ma ta sa xa q a (M) (T) (U) (xs_length X 0) P) (ws2 := lWd g o od ma ta sa xa ad q a (M) (T) (U) (xs_length X 0) P K) (st1 := [.int (iI (m_typed D)), .int (iI (x_length X))]) C hl.1 hW hA (c_X5_clearL l g od ad D  K hK) v_L_93 rfl [79, 80, 81, 82, 83, 84, 85, 86, 87, 88, 89, 90, 91, 92, 93, 94, 95, 96, 97] [0, 1, 2, 3, 4, 5, 6, 7, 8, 9, 10, 11, 12, 13, 14, 15, 16, 17, 18, 19, 20, 21, 22, 23, 24, 25, 26, 27, 28, 29, 30, 31, 32, 33, 34, 35, 36, 37, 38, 39, 40, 41, 42, 43, 44, 45, 46, 47, 48, 49, 50, 51, 52, 53, 54, 55, 56, 57, 58, 59, 60, 61, 62, 63, 64, 65, 66, 67, 68, 69, 70, 71, 72, 73, 74, 75, 76, 77, 78] [0, 1, 2, 3, 4, 5, 6, 7, 8, 9, 10, 11, 12, 13, 14, 15, 16, 17, 18, 19, 20, 21, 22, 23, 24, 25, 26, 27, 28, 29, 30, 31, 32, 33, 34, 35, 36, 37, 38, 39, 40, 41, 42, 43, 44, 45, 46, 47, 48, 49, 50, 51, 52, 53, 54, 55, 56, 57, 58, 59, 60, 61, 62, 63, 64, 65, 66, 67, 68, 69, 70, 71, 72, 73, 74, 75, 76, 77, 78, 79, 80, 81, 82, 83, 84, 85, 86, 87, 88, 89, 90, 91, 92, 93, 94, 95, 96, 97] rfl rfl (by decide) (by decide) rfl rfl 0 rfl rfl rfl (by decide) ⟨Nat.le_of_ble_eq_true rfl, Nat.le_of_ble_eq_true rfl⟩ (Nat.le_of_ble_eq_true rfl) dL_law_699 rfl rfl (fun H locs hW => ?_)
  rw [hs.1]
  refine lv_icmp_eq (tgt := 770) C.1.1 C.1.2.1 dL_law_702 (by decide) (fun _ => ?_) (fun hne => absurd rfl hne)
  have hg := hs.2
  have hK9 : ms_typed D 0 = K := hK
  rw [hK9] at hg
  exact hgo _ _ _ ⟨q, a, _, _, _, _, P, _, hW, hg, hR, hl⟩
set_option maxHeartbeats 4000000 in
set_option maxRecDepth 100000 in
theorem lc_does (C : Cx g p m c code 4 s #[Value.ref b] RL) (E : lEnv A b L xs s) {k i : Int} (hk : 0 ≤ k ∧ k < 1000) (hi : 0 ≤ i ∧ i + 5 ≤ L) (hgo : lGo g p l e s m below meth c A b o od ma ta sa xa ad k i) (h : lStt g s A b o od ma ta sa xa ad k i H locs ls) : W p l e room_1 s m #[Value.ref b] below meth c H locs 98 71790 (lw_Z below #[Value.ref b] s) (F0 m 707 ls []) := by
  obtain ⟨q, a, M, T, U, X, P, D, hW, hS, hR, hl⟩ := h
  have hA : ∀ q, s.heap.size ≤ q → A q := E.2.2.2.1
  have hL := E.2.2.2.2
  have hMo : fOk M := gS_f hS (by omega)
  have hTo := hS.2.2.1.1
  have hUo := hS.2.2.1.2.1
  have hXo := hS.2.2.1.2.2.1
  have hPo := hS.2.2.1.2.2.2.1
  have hDo := hS.2.2.1.2.2.2.2.1
  have hNo := hS.2.2.1.2.2.2.2.2.1
  have hWo := hS.2.2.1.2.2.2.2.2.2
  have hr0 := rR_0 hR hS.1.1
  have hr1 := rR_1 hR
  have hs := s_does  hS (by omega)
  refine r_aload_n C dL_law_707 hl 1 rfl ?_
  refine r_callW (rest := []) (r := some (.int (iI ((fDoes (P 0) (P 1) M T U X).1)))) (wr := pW g (q 2) (a 2) (P 2) ++ (pW g (q 3) (a 3) (P 3) ++ (pW g (q 4) (a 4) (P 4) ++ (pW g (q 5) (a 5) (P 5) ++ (pW g (q 6) (a 6) (P 6) ++ mF g od ad (m_refused D) (m_now D) (m_kept D) (m_states D) (m_place D) (m_startFact D) (m_node D) (m_fact D) (m_ahead D) (m_inside D) (m_entries D) (m_caller D) (m_following D) (m_firstCaller D) (m_lastCaller D) (m_callers D) (m_known D) (m_loose D) (m_stack D) (m_high D) (m_pairs D) (m_told D) (m_text D) (m_typed D) (m_orders D) (m_written D) (m_look D)))))) (ws2 := lWd g o od ma ta sa xa ad q a ((fDoes (P 0) (P 1) M T U X).2.1) ((fDoes (P 0) (P 1) M T U X).2.2.1) ((fDoes (P 0) (P 1) M T U X).2.2.2.1) ((fDoes (P 0) (P 1) M T U X).2.2.2.2.1) (upN P 1 ((fDoes (P 0) (P 1) M T U X).2.2.2.2.2)) D) (st1 := [.int (iI ((fDoes (P 0) (P 1) M T U X).1))]) C hl.1 hW hA (c_X4_does l g o ma M ta T sa U xa X (q 0) (a 0) (P 0) (q 1) (a 1) (P 1)  hMo hTo hUo hXo (hPo 0 (by omega)) (hPo 1 (by omega)) hr0 hr1) v_L_94 rfl [0, 1, 2, 3, 4, 5, 6, 7, 8, 9, 10, 11, 12, 13, 14, 15, 16, 17, 18, 19, 20, 21, 22, 23, 24, 25, 26, 27, 28, 29, 30, 31, 32, 33] [34, 35, 36, 37, 38, 39, 40, 41, 42, 43, 44, 45, 46, 47, 48, 49, 50, 51, 52, 53, 54, 55, 56, 57, 58, 59, 60, 61, 62, 63, 64, 65, 66, 67, 68, 69, 70, 71, 72, 73, 74, 75, 76, 77, 78, 79, 80, 81, 82, 83, 84, 85, 86, 87, 88, 89, 90, 91, 92, 93, 94, 95, 96, 97] [64, 65, 66, 67, 68, 69, 70, 71, 72, 73, 74, 75, 76, 77, 78, 79, 80, 81, 82, 83, 84, 85, 86, 87, 88, 89, 90, 91, 92, 93, 94, 95, 96, 97, 0, 1, 2, 3, 4, 5, 6, 7, 8, 9, 10, 11, 12, 13, 14, 15, 16, 17, 18, 19, 20, 21, 22, 23, 24, 25, 26, 27, 28, 29, 30, 31, 32, 33, 34, 35, 36, 37, 38, 39, 40, 41, 42, 43, 44, 45, 46, 47, 48, 49, 50, 51, 52, 53, 54, 55, 56, 57, 58, 59, 60, 61, 62, 63] rfl rfl (by decide) (by decide) rfl rfl 0 rfl rfl rfl (by decide) ⟨Nat.le_of_ble_eq_true rfl, Nat.le_of_ble_eq_true rfl⟩ (Nat.le_of_ble_eq_true rfl) dL_law_708 rfl rfl (fun H locs hW => ?_)
  refine opq ((mDoes D).2) (fun K hK => ?_)
  refine r_aload_n C dL_law_711 hl 2 rfl ?_
  refine r_callW (rest := [.int (iI ((fDoes (P 0) (P 1) M T U X).1))]) (r := some (.int (iI ((mDoes D).1)))) (wr := cW g o ma ta sa xa q a ((fDoes (P 0) (P 1) M T U X).2.1) ((fDoes (P 0) (P 1) M T U X).2.2.1) ((fDoes (P 0) (P 1) M T U X).2.2.2.1) ((fDoes (P 0) (P 1) M T U X).2.2.2.2.1) (upN P 1 ((fDoes (P 0) (P 1) M T U X).2.2.2.2.2))) (ws2 := lWd g o od ma ta sa xa ad q a ((fDoes (P 0) (P 1) M T U X).2.1) ((fDoes (P 0) (P 1) M T U X).2.2.1) ((fDoes (P 0) (P 1) M T U X).2.2.2.1) ((fDoes (P 0) (P 1) M T U X).2.2.2.2.1) (upN P 1 ((fDoes (P 0) (P 1) M T U X).2.2.2.2.2)) K) (st1 := [.int (iI ((mDoes D).1)), .int (iI ((fDoes (P 0) (P 1) M T U X).1))]) C hl.1 hW hA (c_X5_doesL l g od ad D  K hDo hNo hK) v_L_97 rfl [79, 80, 81, 82, 83, 84, 85, 86, 87, 88, 89, 90, 91, 92, 93, 94, 95, 96, 97] [0, 1, 2, 3, 4, 5, 6, 7, 8, 9, 10, 11, 12, 13, 14, 15, 16, 17, 18, 19, 20, 21, 22, 23, 24, 25, 26, 27, 28, 29, 30, 31, 32, 33, 34, 35, 36, 37, 38, 39, 40, 41, 42, 43, 44, 45, 46, 47, 48, 49, 50, 51, 52, 53, 54, 55, 56, 57, 58, 59, 60, 61, 62, 63, 64, 65, 66, 67, 68, 69, 70, 71, 72, 73, 74, 75, 76, 77, 78] [0, 1, 2, 3, 4, 5, 6, 7, 8, 9, 10, 11, 12, 13, 14, 15, 16, 17, 18, 19, 20, 21, 22, 23, 24, 25, 26, 27, 28, 29, 30, 31, 32, 33, 34, 35, 36, 37, 38, 39, 40, 41, 42, 43, 44, 45, 46, 47, 48, 49, 50, 51, 52, 53, 54, 55, 56, 57, 58, 59, 60, 61, 62, 63, 64, 65, 66, 67, 68, 69, 70, 71, 72, 73, 74, 75, 76, 77, 78, 79, 80, 81, 82, 83, 84, 85, 86, 87, 88, 89, 90, 91, 92, 93, 94, 95, 96, 97] rfl rfl (by decide) (by decide) rfl rfl 0 rfl rfl rfl (by decide) ⟨Nat.le_of_ble_eq_true rfl, Nat.le_of_ble_eq_true rfl⟩ (Nat.le_of_ble_eq_true rfl) dL_law_712 rfl rfl (fun H locs hW => ?_)
  rw [hs.1]
  refine lv_icmp_eq (tgt := 770) C.1.1 C.1.2.1 dL_law_715 (by decide) (fun _ => ?_) (fun hne => absurd rfl hne)
  have hg := hs.2
  have hK9 : (mDoes D).2 = K := hK
  rw [hK9] at hg
  have hrn := fDoes_rn (P 0) (P 1) M T U X hXo
  obtain ⟨q9, a9, hW9, hR9⟩ := l_set hW hR hS.1.1 hrn.1 hrn.2
  exact hgo _ _ _ ⟨q9, a9, _, _, _, _, _, _, hW9, hg, hR9, hl⟩
set_option maxHeartbeats 4000000 in
set_option maxRecDepth 100000 in
theorem lc_back (C : Cx g p m c code 4 s #[Value.ref b] RL) (E : lEnv A b L xs s) {k i : Int} (hk : 0 ≤ k ∧ k < 1000) (hi : 0 ≤ i ∧ i + 5 ≤ L) (hgo : lGo g p l e s m below meth c A b o od ma ta sa xa ad k i) (h : lStt g s A b o od ma ta sa xa ad k i H locs ls) : W p l e room_1 s m #[Value.ref b] below meth c H locs 98 71790 (lw_Z below #[Value.ref b] s) (F0 m 720 ls []) := by
  obtain ⟨q, a, M, T, U, X, P, D, hW, hS, hR, hl⟩ := h
  have hA : ∀ q, s.heap.size ≤ q → A q := E.2.2.2.1
  have hL := E.2.2.2.2
  have hMo : fOk M := gS_f hS (by omega)
  have hTo := hS.2.2.1.1
  have hUo := hS.2.2.1.2.1
  have hXo := hS.2.2.1.2.2.1
  have hPo := hS.2.2.1.2.2.2.1
  have hDo := hS.2.2.1.2.2.2.2.1
  have hNo := hS.2.2.1.2.2.2.2.2.1
  have hWo := hS.2.2.1.2.2.2.2.2.2
  have hr0 := rR_0 hR hS.1.1
  have hr1 := rR_1 hR
  have hs := s_back  hS (by omega)
  refine r_aload_n C dL_law_720 hl 1 rfl ?_
  refine r_callW (rest := []) (r := some (.int (iI ((fBack M T U).1)))) (wr := pW g (q 1) (a 1) (P 1) ++ (pW g (q 2) (a 2) (P 2) ++ (pW g (q 3) (a 3) (P 3) ++ (pW g (q 4) (a 4) (P 4) ++ (pW g (q 5) (a 5) (P 5) ++ (pW g (q 6) (a 6) (P 6) ++ mF g od ad (m_refused D) (m_now D) (m_kept D) (m_states D) (m_place D) (m_startFact D) (m_node D) (m_fact D) (m_ahead D) (m_inside D) (m_entries D) (m_caller D) (m_following D) (m_firstCaller D) (m_lastCaller D) (m_callers D) (m_known D) (m_loose D) (m_stack D) (m_high D) (m_pairs D) (m_told D) (m_text D) (m_typed D) (m_orders D) (m_written D) (m_look D))))))) (ws2 := lWd g o od ma ta sa xa ad q a ((fBack M T U).2.1) ((fBack M T U).2.2.1) ((fBack M T U).2.2.2) (X) P D) (st1 := [.int (iI ((fBack M T U).1))]) C hl.1 hW hA (c_X4_back l g o ma M ta T sa U xa X (q 0) (a 0) (P 0)  hMo hTo hUo hXo (hPo 0 (by omega)) hr0) v_L_98 rfl [0, 1, 2, 3, 4, 5, 6, 7, 8, 9, 10, 11, 12, 13, 14, 15, 16, 17, 18, 19, 20, 21, 22, 23, 24] [25, 26, 27, 28, 29, 30, 31, 32, 33, 34, 35, 36, 37, 38, 39, 40, 41, 42, 43, 44, 45, 46, 47, 48, 49, 50, 51, 52, 53, 54, 55, 56, 57, 58, 59, 60, 61, 62, 63, 64, 65, 66, 67, 68, 69, 70, 71, 72, 73, 74, 75, 76, 77, 78, 79, 80, 81, 82, 83, 84, 85, 86, 87, 88, 89, 90, 91, 92, 93, 94, 95, 96, 97] [73, 74, 75, 76, 77, 78, 79, 80, 81, 82, 83, 84, 85, 86, 87, 88, 89, 90, 91, 92, 93, 94, 95, 96, 97, 0, 1, 2, 3, 4, 5, 6, 7, 8, 9, 10, 11, 12, 13, 14, 15, 16, 17, 18, 19, 20, 21, 22, 23, 24, 25, 26, 27, 28, 29, 30, 31, 32, 33, 34, 35, 36, 37, 38, 39, 40, 41, 42, 43, 44, 45, 46, 47, 48, 49, 50, 51, 52, 53, 54, 55, 56, 57, 58, 59, 60, 61, 62, 63, 64, 65, 66, 67, 68, 69, 70, 71, 72] rfl rfl (by decide) (by decide) rfl rfl 0 rfl rfl rfl (by decide) ⟨Nat.le_of_ble_eq_true rfl, Nat.le_of_ble_eq_true rfl⟩ (Nat.le_of_ble_eq_true rfl) dL_law_721 rfl rfl (fun H locs hW => ?_)
  refine opq ((mBack D).2) (fun K hK => ?_)
  refine r_aload_n C dL_law_724 hl 2 rfl ?_
  refine r_callW (rest := [.int (iI ((fBack M T U).1))]) (r := some (.int (iI ((mBack D).1)))) (wr := cW g o ma ta sa xa q a ((fBack M T U).2.1) ((fBack M T U).2.2.1) ((fBack M T U).2.2.2) (X) P) (ws2 := lWd g o od ma ta sa xa ad q a ((fBack M T U).2.1) ((fBack M T U).2.2.1) ((fBack M T U).2.2.2) (X) P K) (st1 := [.int (iI ((mBack D).1)), .int (iI ((fBack M T U).1))]) C hl.1 hW hA (c_X5_backL l g od ad D  K hDo hK) v_L_101 rfl [79, 80, 81, 82, 83, 84, 85, 86, 87, 88, 89, 90, 91, 92, 93, 94, 95, 96, 97] [0, 1, 2, 3, 4, 5, 6, 7, 8, 9, 10, 11, 12, 13, 14, 15, 16, 17, 18, 19, 20, 21, 22, 23, 24, 25, 26, 27, 28, 29, 30, 31, 32, 33, 34, 35, 36, 37, 38, 39, 40, 41, 42, 43, 44, 45, 46, 47, 48, 49, 50, 51, 52, 53, 54, 55, 56, 57, 58, 59, 60, 61, 62, 63, 64, 65, 66, 67, 68, 69, 70, 71, 72, 73, 74, 75, 76, 77, 78] [0, 1, 2, 3, 4, 5, 6, 7, 8, 9, 10, 11, 12, 13, 14, 15, 16, 17, 18, 19, 20, 21, 22, 23, 24, 25, 26, 27, 28, 29, 30, 31, 32, 33, 34, 35, 36, 37, 38, 39, 40, 41, 42, 43, 44, 45, 46, 47, 48, 49, 50, 51, 52, 53, 54, 55, 56, 57, 58, 59, 60, 61, 62, 63, 64, 65, 66, 67, 68, 69, 70, 71, 72, 73, 74, 75, 76, 77, 78, 79, 80, 81, 82, 83, 84, 85, 86, 87, 88, 89, 90, 91, 92, 93, 94, 95, 96, 97] rfl rfl (by decide) (by decide) rfl rfl 0 rfl rfl rfl (by decide) ⟨Nat.le_of_ble_eq_true rfl, Nat.le_of_ble_eq_true rfl⟩ (Nat.le_of_ble_eq_true rfl) dL_law_725 rfl rfl (fun H locs hW => ?_)
  rw [hs.1]
  refine lv_icmp_eq (tgt := 770) C.1.1 C.1.2.1 dL_law_728 (by decide) (fun _ => ?_) (fun hne => absurd rfl hne)
  have hg := hs.2
  have hK9 : (mBack D).2 = K := hK
  rw [hK9] at hg
  obtain ⟨q9, a9, hW9, hR9⟩ := l_bk hW hR hS.1.1
  exact hgo _ _ _ ⟨q9, a9, _, _, _, _, _, _, hW9, hg, hR9, hl⟩
set_option maxHeartbeats 4000000 in
set_option maxRecDepth 100000 in
theorem lc_told (C : Cx g p m c code 4 s #[Value.ref b] RL) (E : lEnv A b L xs s) {k i : Int} (hk : 0 ≤ k ∧ k < 1000) (hi : 0 ≤ i ∧ i + 5 ≤ L) (hgo : lGo g p l e s m below meth c A b o od ma ta sa xa ad k i) (h : lStt g s A b o od ma ta sa xa ad k i H locs ls) : W p l e room_1 s m #[Value.ref b] below meth c H locs 98 71790 (lw_Z below #[Value.ref b] s) (F0 m 733 ls []) := by
  obtain ⟨q, a, M, T, U, X, P, D, hW, hS, hR, hl⟩ := h
  have hA : ∀ q, s.heap.size ≤ q → A q := E.2.2.2.1
  have hL := E.2.2.2.2
  have hMo : fOk M := gS_f hS (by omega)
  have hTo := hS.2.2.1.1
  have hUo := hS.2.2.1.2.1
  have hXo := hS.2.2.1.2.2.1
  have hPo := hS.2.2.1.2.2.2.1
  have hDo := hS.2.2.1.2.2.2.2.1
  have hNo := hS.2.2.1.2.2.2.2.2.1
  have hWo := hS.2.2.1.2.2.2.2.2.2
  have hr0 := rR_0 hR hS.1.1
  have hr1 := rR_1 hR
  have hz1 := zx_r xs (i + 1)
  have hs := s_told (w := zx xs (i + 1)) hS (by omega)
  generalize hzz1 : zx xs (i + 1) = z1 at hz1 hs
  refine r_aload_n C dL_law_733 hl 1 rfl ?_
  refine r_aload_n C dL_law_734 hl 0 rfl ?_
  refine r_iload_n C dL_law_735 hl 3 rfl ?_
  refine r_iconst (z := 1) C dL_law_736 rfl ?_
  refine r_iadd C dL_law_737 ?_
  refine l_sld C E hW (by omega) dL_law_738 ?_
  rw [hzz1]
  refine r_callW (rest := []) (r := some (.int (iI ((fTold z1 M X).1)))) (wr := pW g (q 1) (a 1) (P 1) ++ (pW g (q 2) (a 2) (P 2) ++ (pW g (q 3) (a 3) (P 3) ++ (pW g (q 4) (a 4) (P 4) ++ (pW g (q 5) (a 5) (P 5) ++ (pW g (q 6) (a 6) (P 6) ++ mF g od ad (m_refused D) (m_now D) (m_kept D) (m_states D) (m_place D) (m_startFact D) (m_node D) (m_fact D) (m_ahead D) (m_inside D) (m_entries D) (m_caller D) (m_following D) (m_firstCaller D) (m_lastCaller D) (m_callers D) (m_known D) (m_loose D) (m_stack D) (m_high D) (m_pairs D) (m_told D) (m_text D) (m_typed D) (m_orders D) (m_written D) (m_look D))))))) (ws2 := lWd g o od ma ta sa xa ad q a ((fTold z1 M X).2) (T) (U) (X) P D) (st1 := [.int (iI ((fTold z1 M X).1))]) C hl.1 hW hA (c_X4_told l g o ma M ta T sa U xa X (q 0) (a 0) (P 0) z1 hMo hTo hUo hXo (hPo 0 (by omega)) hr0 hz1) v_L_102 rfl [0, 1, 2, 3, 4, 5, 6, 7, 8, 9, 10, 11, 12, 13, 14, 15, 16, 17, 18, 19, 20, 21, 22, 23, 24] [25, 26, 27, 28, 29, 30, 31, 32, 33, 34, 35, 36, 37, 38, 39, 40, 41, 42, 43, 44, 45, 46, 47, 48, 49, 50, 51, 52, 53, 54, 55, 56, 57, 58, 59, 60, 61, 62, 63, 64, 65, 66, 67, 68, 69, 70, 71, 72, 73, 74, 75, 76, 77, 78, 79, 80, 81, 82, 83, 84, 85, 86, 87, 88, 89, 90, 91, 92, 93, 94, 95, 96, 97] [73, 74, 75, 76, 77, 78, 79, 80, 81, 82, 83, 84, 85, 86, 87, 88, 89, 90, 91, 92, 93, 94, 95, 96, 97, 0, 1, 2, 3, 4, 5, 6, 7, 8, 9, 10, 11, 12, 13, 14, 15, 16, 17, 18, 19, 20, 21, 22, 23, 24, 25, 26, 27, 28, 29, 30, 31, 32, 33, 34, 35, 36, 37, 38, 39, 40, 41, 42, 43, 44, 45, 46, 47, 48, 49, 50, 51, 52, 53, 54, 55, 56, 57, 58, 59, 60, 61, 62, 63, 64, 65, 66, 67, 68, 69, 70, 71, 72] rfl rfl (by decide) (by decide) rfl rfl 0 rfl rfl rfl (by decide) ⟨Nat.le_of_ble_eq_true rfl, Nat.le_of_ble_eq_true rfl⟩ (Nat.le_of_ble_eq_true rfl) dL_law_739 rfl rfl (fun H locs hW => ?_)
  refine opq ((mToldA z1 D).2) (fun K hK => ?_)
  refine r_aload_n C dL_law_742 hl 2 rfl ?_
  refine r_aload_n C dL_law_743 hl 0 rfl ?_
  refine r_iload_n C dL_law_744 hl 3 rfl ?_
  refine r_iconst (z := 1) C dL_law_745 rfl ?_
  refine r_iadd C dL_law_746 ?_
  refine l_sld C E hW (by omega) dL_law_747 ?_
  rw [hzz1]
  refine r_callW (rest := [.int (iI ((fTold z1 M X).1))]) (r := some (.int (iI ((mToldA z1 D).1)))) (wr := cW g o ma ta sa xa q a ((fTold z1 M X).2) (T) (U) (X) P) (ws2 := lWd g o od ma ta sa xa ad q a ((fTold z1 M X).2) (T) (U) (X) P K) (st1 := [.int (iI ((mToldA z1 D).1)), .int (iI ((fTold z1 M X).1))]) C hl.1 hW hA (c_X5_toldL l g od ad D z1 K hDo hz1 hK) v_L_105 rfl [79, 80, 81, 82, 83, 84, 85, 86, 87, 88, 89, 90, 91, 92, 93, 94, 95, 96, 97] [0, 1, 2, 3, 4, 5, 6, 7, 8, 9, 10, 11, 12, 13, 14, 15, 16, 17, 18, 19, 20, 21, 22, 23, 24, 25, 26, 27, 28, 29, 30, 31, 32, 33, 34, 35, 36, 37, 38, 39, 40, 41, 42, 43, 44, 45, 46, 47, 48, 49, 50, 51, 52, 53, 54, 55, 56, 57, 58, 59, 60, 61, 62, 63, 64, 65, 66, 67, 68, 69, 70, 71, 72, 73, 74, 75, 76, 77, 78] [0, 1, 2, 3, 4, 5, 6, 7, 8, 9, 10, 11, 12, 13, 14, 15, 16, 17, 18, 19, 20, 21, 22, 23, 24, 25, 26, 27, 28, 29, 30, 31, 32, 33, 34, 35, 36, 37, 38, 39, 40, 41, 42, 43, 44, 45, 46, 47, 48, 49, 50, 51, 52, 53, 54, 55, 56, 57, 58, 59, 60, 61, 62, 63, 64, 65, 66, 67, 68, 69, 70, 71, 72, 73, 74, 75, 76, 77, 78, 79, 80, 81, 82, 83, 84, 85, 86, 87, 88, 89, 90, 91, 92, 93, 94, 95, 96, 97] rfl rfl (by decide) (by decide) rfl rfl 0 rfl rfl rfl (by decide) ⟨Nat.le_of_ble_eq_true rfl, Nat.le_of_ble_eq_true rfl⟩ (Nat.le_of_ble_eq_true rfl) dL_law_748 rfl rfl (fun H locs hW => ?_)
  rw [hs.1]
  refine lv_icmp_eq (tgt := 770) C.1.1 C.1.2.1 dL_law_751 (by decide) (fun _ => ?_) (fun hne => absurd rfl hne)
  have hg := hs.2
  have hK9 : (mToldA z1 D).2 = K := hK
  rw [hK9] at hg
  have hrn : f_rows ((fTold z1 M X).2) = f_rows M ∧ f_now ((fTold z1 M X).2) = f_now M := by unfold fTold; (repeat' split) <;> first | exact ⟨rfl, rfl⟩ | exact fRef_rn _ _
  exact hgo _ _ _ ⟨q, a, _, _, _, _, P, _, hW, hg, rR_same hR hrn, hl⟩
set_option maxHeartbeats 4000000 in
set_option maxRecDepth 100000 in
theorem lc_digest (C : Cx g p m c code 4 s #[Value.ref b] RL) (E : lEnv A b L xs s) {k i : Int} (hk : 0 ≤ k ∧ k < 1000) (hi : 0 ≤ i ∧ i + 5 ≤ L) (hgo : lGo g p l e s m below meth c A b o od ma ta sa xa ad k i) (h : lStt g s A b o od ma ta sa xa ad k i H locs ls) : W p l e room_1 s m #[Value.ref b] below meth c H locs 98 71790 (lw_Z below #[Value.ref b] s) (F0 m 756 ls []) := by
  obtain ⟨q, a, M, T, U, X, P, D, hW, hS, hR, hl⟩ := h
  have hA : ∀ q, s.heap.size ≤ q → A q := E.2.2.2.1
  have hL := E.2.2.2.2
  have hMo : fOk M := gS_f hS (by omega)
  have hTo := hS.2.2.1.1
  have hUo := hS.2.2.1.2.1
  have hXo := hS.2.2.1.2.2.1
  have hPo := hS.2.2.1.2.2.2.1
  have hDo := hS.2.2.1.2.2.2.2.1
  have hNo := hS.2.2.1.2.2.2.2.2.1
  have hWo := hS.2.2.1.2.2.2.2.2.2
  have hr0 := rR_0 hR hS.1.1
  have hr1 := rR_1 hR
  have hs := s_digest  hS
  refine r_aload_n C dL_law_756 hl 1 rfl ?_
  refine r_callW (rest := []) (r := some (.long (lI (dEdges (P 0) (dNodes (P 0) (tFill (P 0) 0 (p_start (P 0)) T) (uFill (P 0) U) (dTop (P 0) (tFill (P 0) 0 (p_start (P 0)) T) M X)))))) (wr := pW g (q 1) (a 1) (P 1) ++ (pW g (q 2) (a 2) (P 2) ++ (pW g (q 3) (a 3) (P 3) ++ (pW g (q 4) (a 4) (P 4) ++ (pW g (q 5) (a 5) (P 5) ++ (pW g (q 6) (a 6) (P 6) ++ mF g od ad (m_refused D) (m_now D) (m_kept D) (m_states D) (m_place D) (m_startFact D) (m_node D) (m_fact D) (m_ahead D) (m_inside D) (m_entries D) (m_caller D) (m_following D) (m_firstCaller D) (m_lastCaller D) (m_callers D) (m_known D) (m_loose D) (m_stack D) (m_high D) (m_pairs D) (m_told D) (m_text D) (m_typed D) (m_orders D) (m_written D) (m_look D))))))) (ws2 := lWd g o od ma ta sa xa ad q a (M) ((tFill (P 0) 0 (p_start (P 0)) T)) ((uFill (P 0) U)) (X) P D) (st1 := [.long (lI (dEdges (P 0) (dNodes (P 0) (tFill (P 0) 0 (p_start (P 0)) T) (uFill (P 0) U) (dTop (P 0) (tFill (P 0) 0 (p_start (P 0)) T) M X))))]) C hl.1 hW hA (c_X4_digest l g o ma M ta T sa U xa X (q 0) (a 0) (P 0)  hMo hTo hUo hXo (hPo 0 (by omega)) hr0) v_L_106 rfl [0, 1, 2, 3, 4, 5, 6, 7, 8, 9, 10, 11, 12, 13, 14, 15, 16, 17, 18, 19, 20, 21, 22, 23, 24] [25, 26, 27, 28, 29, 30, 31, 32, 33, 34, 35, 36, 37, 38, 39, 40, 41, 42, 43, 44, 45, 46, 47, 48, 49, 50, 51, 52, 53, 54, 55, 56, 57, 58, 59, 60, 61, 62, 63, 64, 65, 66, 67, 68, 69, 70, 71, 72, 73, 74, 75, 76, 77, 78, 79, 80, 81, 82, 83, 84, 85, 86, 87, 88, 89, 90, 91, 92, 93, 94, 95, 96, 97] [73, 74, 75, 76, 77, 78, 79, 80, 81, 82, 83, 84, 85, 86, 87, 88, 89, 90, 91, 92, 93, 94, 95, 96, 97, 0, 1, 2, 3, 4, 5, 6, 7, 8, 9, 10, 11, 12, 13, 14, 15, 16, 17, 18, 19, 20, 21, 22, 23, 24, 25, 26, 27, 28, 29, 30, 31, 32, 33, 34, 35, 36, 37, 38, 39, 40, 41, 42, 43, 44, 45, 46, 47, 48, 49, 50, 51, 52, 53, 54, 55, 56, 57, 58, 59, 60, 61, 62, 63, 64, 65, 66, 67, 68, 69, 70, 71, 72] rfl rfl (by decide) (by decide) rfl rfl 0 rfl rfl rfl (by decide) ⟨Nat.le_of_ble_eq_true rfl, Nat.le_of_ble_eq_true rfl⟩ (Nat.le_of_ble_eq_true rfl) dL_law_757 rfl rfl (fun H locs hW => ?_)
  refine opq (mLo (mKn D)) (fun K hK => ?_)
  refine r_aload_n C dL_law_760 hl 2 rfl ?_
  refine r_callW (rest := [.long (lI (dEdges (P 0) (dNodes (P 0) (tFill (P 0) 0 (p_start (P 0)) T) (uFill (P 0) U) (dTop (P 0) (tFill (P 0) 0 (p_start (P 0)) T) M X))))]) (r := some (.long (lI (mDigest D)))) (wr := cW g o ma ta sa xa q a (M) ((tFill (P 0) 0 (p_start (P 0)) T)) ((uFill (P 0) U)) (X) P) (ws2 := lWd g o od ma ta sa xa ad q a (M) ((tFill (P 0) 0 (p_start (P 0)) T)) ((uFill (P 0) U)) (X) P K) (st1 := [.long (lI (mDigest D)), .long (lI (dEdges (P 0) (dNodes (P 0) (tFill (P 0) 0 (p_start (P 0)) T) (uFill (P 0) U) (dTop (P 0) (tFill (P 0) 0 (p_start (P 0)) T) M X))))]) C hl.1 hW hA (c_X5_digestL l g od ad D  K hDo hNo hWo hK) v_L_110 rfl [79, 80, 81, 82, 83, 84, 85, 86, 87, 88, 89, 90, 91, 92, 93, 94, 95, 96, 97] [0, 1, 2, 3, 4, 5, 6, 7, 8, 9, 10, 11, 12, 13, 14, 15, 16, 17, 18, 19, 20, 21, 22, 23, 24, 25, 26, 27, 28, 29, 30, 31, 32, 33, 34, 35, 36, 37, 38, 39, 40, 41, 42, 43, 44, 45, 46, 47, 48, 49, 50, 51, 52, 53, 54, 55, 56, 57, 58, 59, 60, 61, 62, 63, 64, 65, 66, 67, 68, 69, 70, 71, 72, 73, 74, 75, 76, 77, 78] [0, 1, 2, 3, 4, 5, 6, 7, 8, 9, 10, 11, 12, 13, 14, 15, 16, 17, 18, 19, 20, 21, 22, 23, 24, 25, 26, 27, 28, 29, 30, 31, 32, 33, 34, 35, 36, 37, 38, 39, 40, 41, 42, 43, 44, 45, 46, 47, 48, 49, 50, 51, 52, 53, 54, 55, 56, 57, 58, 59, 60, 61, 62, 63, 64, 65, 66, 67, 68, 69, 70, 71, 72, 73, 74, 75, 76, 77, 78, 79, 80, 81, 82, 83, 84, 85, 86, 87, 88, 89, 90, 91, 92, 93, 94, 95, 96, 97] rfl rfl (by decide) (by decide) rfl rfl 0 rfl rfl rfl (by decide) ⟨Nat.le_of_ble_eq_true rfl, Nat.le_of_ble_eq_true rfl⟩ (Nat.le_of_ble_eq_true rfl) dL_law_761 rfl rfl (fun H locs hW => ?_)
  rw [hs.1]
  refine W.lcmp C.1.1 C.1.2.1 dL_law_764 ?_
  rw [lcmp_same]
  refine lv_if_eq (tgt := 770) C.1.1 C.1.2.1 dL_law_765 (by decide) (fun _ => ?_) (fun hne => absurd rfl hne)
  have hg := hs.2
  have hK9 : mLo (mKn D) = K := hK
  rw [hK9] at hg
  exact hgo _ _ _ ⟨q, a, _, _, _, _, P, _, hW, hg, hR, hl⟩
end LC
